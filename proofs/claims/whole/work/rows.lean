section
-- ===== PART A: goes FIRST, ahead of the names: the tables' words, and 'selects' of the private methods out of them =====
/-- a private method of a class that the tables say can be made, by its rows of tables_1 -/
def lw_okq (q : MethodName × Nat) : Prop := (q.1.cls ≠ "java/lang/invoke/MethodHandle" ∧ q.1.cls ≠ "java/lang/invoke/VarHandle") ∧ Cond.instantiable q.1.cls q.2 ∈ tables_1 ∧ Cond.privateMethod q.1 ∈ tables_1 ∧ Cond.instanceMethod q.1 ∈ tables_1
theorem lw_p0 : lw_okq (⟨"ProcessMiner", "readLog", "()LProcessMiner$Log;"⟩, 10) := ⟨⟨by decide +kernel, by decide +kernel⟩, List.mem_of_getElem? (i := 16) (by decide +kernel), List.mem_of_getElem? (i := 175) (by decide +kernel), List.mem_of_getElem? (i := 176) (by decide +kernel)⟩
theorem lw_p1 : lw_okq (⟨"ProcessMiner$Log", "measureTrace", "(II)V"⟩, 13) := ⟨⟨by decide +kernel, by decide +kernel⟩, List.mem_of_getElem? (i := 82) (by decide +kernel), List.mem_of_getElem? (i := 195) (by decide +kernel), List.mem_of_getElem? (i := 196) (by decide +kernel)⟩
theorem lw_p2 : lw_okq (⟨"ProcessMiner", "isRepeated", "(I)Z"⟩, 10) := ⟨⟨by decide +kernel, by decide +kernel⟩, List.mem_of_getElem? (i := 16) (by decide +kernel), List.mem_of_getElem? (i := 207) (by decide +kernel), List.mem_of_getElem? (i := 208) (by decide +kernel)⟩
theorem lw_p3 : lw_okq (⟨"ProcessMiner", "isSame", "(II)Z"⟩, 10) := ⟨⟨by decide +kernel, by decide +kernel⟩, List.mem_of_getElem? (i := 16) (by decide +kernel), List.mem_of_getElem? (i := 211) (by decide +kernel), List.mem_of_getElem? (i := 212) (by decide +kernel)⟩
theorem lw_p4 : lw_okq (⟨"ProcessMiner$Log", "addPart", "(I)V"⟩, 13) := ⟨⟨by decide +kernel, by decide +kernel⟩, List.mem_of_getElem? (i := 82) (by decide +kernel), List.mem_of_getElem? (i := 226) (by decide +kernel), List.mem_of_getElem? (i := 227) (by decide +kernel)⟩
theorem lw_p5 : lw_okq (⟨"ProcessMiner$Log", "hasNext", "()Z"⟩, 13) := ⟨⟨by decide +kernel, by decide +kernel⟩, List.mem_of_getElem? (i := 82) (by decide +kernel), List.mem_of_getElem? (i := 236) (by decide +kernel), List.mem_of_getElem? (i := 237) (by decide +kernel)⟩
theorem lw_p6 : lw_okq (⟨"ProcessMiner$Log", "isCutByChoice", "()Z"⟩, 13) := ⟨⟨by decide +kernel, by decide +kernel⟩, List.mem_of_getElem? (i := 82) (by decide +kernel), List.mem_of_getElem? (i := 240) (by decide +kernel), List.mem_of_getElem? (i := 241) (by decide +kernel)⟩
theorem lw_p7 : lw_okq (⟨"ProcessMiner$Log", "linkNeighbours", "()V"⟩, 13) := ⟨⟨by decide +kernel, by decide +kernel⟩, List.mem_of_getElem? (i := 82) (by decide +kernel), List.mem_of_getElem? (i := 244) (by decide +kernel), List.mem_of_getElem? (i := 245) (by decide +kernel)⟩
theorem lw_p8 : lw_okq (⟨"ProcessMiner$Log", "addGroups", "(I)V"⟩, 13) := ⟨⟨by decide +kernel, by decide +kernel⟩, List.mem_of_getElem? (i := 82) (by decide +kernel), List.mem_of_getElem? (i := 251) (by decide +kernel), List.mem_of_getElem? (i := 252) (by decide +kernel)⟩
theorem lw_p9 : lw_okq (⟨"ProcessMiner$Log", "groupOf", "(II)I"⟩, 13) := ⟨⟨by decide +kernel, by decide +kernel⟩, List.mem_of_getElem? (i := 82) (by decide +kernel), List.mem_of_getElem? (i := 255) (by decide +kernel), List.mem_of_getElem? (i := 256) (by decide +kernel)⟩
theorem lw_p10 : lw_okq (⟨"ProcessMiner$Log", "isCutByOrder", "()Z"⟩, 13) := ⟨⟨by decide +kernel, by decide +kernel⟩, List.mem_of_getElem? (i := 82) (by decide +kernel), List.mem_of_getElem? (i := 259) (by decide +kernel), List.mem_of_getElem? (i := 260) (by decide +kernel)⟩
theorem lw_p11 : lw_okq (⟨"ProcessMiner$Log", "sortByReach", "()V"⟩, 13) := ⟨⟨by decide +kernel, by decide +kernel⟩, List.mem_of_getElem? (i := 82) (by decide +kernel), List.mem_of_getElem? (i := 267) (by decide +kernel), List.mem_of_getElem? (i := 268) (by decide +kernel)⟩
theorem lw_p12 : lw_okq (⟨"ProcessMiner$Log", "leadsInto", "(II)Z"⟩, 13) := ⟨⟨by decide +kernel, by decide +kernel⟩, List.mem_of_getElem? (i := 82) (by decide +kernel), List.mem_of_getElem? (i := 271) (by decide +kernel), List.mem_of_getElem? (i := 272) (by decide +kernel)⟩
theorem lw_p13 : lw_okq (⟨"ProcessMiner$Log", "isCutByBoth", "()Z"⟩, 13) := ⟨⟨by decide +kernel, by decide +kernel⟩, List.mem_of_getElem? (i := 82) (by decide +kernel), List.mem_of_getElem? (i := 275) (by decide +kernel), List.mem_of_getElem? (i := 276) (by decide +kernel)⟩
theorem lw_p14 : lw_okq (⟨"ProcessMiner$Log", "joinLacking", "()V"⟩, 13) := ⟨⟨by decide +kernel, by decide +kernel⟩, List.mem_of_getElem? (i := 82) (by decide +kernel), List.mem_of_getElem? (i := 279) (by decide +kernel), List.mem_of_getElem? (i := 280) (by decide +kernel)⟩
theorem lw_p15 : lw_okq (⟨"ProcessMiner$Log", "firstLacking", "()I"⟩, 13) := ⟨⟨by decide +kernel, by decide +kernel⟩, List.mem_of_getElem? (i := 82) (by decide +kernel), List.mem_of_getElem? (i := 283) (by decide +kernel), List.mem_of_getElem? (i := 284) (by decide +kernel)⟩
def lw_privs_1 : List (MethodName × Nat) := [(⟨"ProcessMiner", "readLog", "()LProcessMiner$Log;"⟩, 10), (⟨"ProcessMiner$Log", "measureTrace", "(II)V"⟩, 13), (⟨"ProcessMiner", "isRepeated", "(I)Z"⟩, 10), (⟨"ProcessMiner", "isSame", "(II)Z"⟩, 10), (⟨"ProcessMiner$Log", "addPart", "(I)V"⟩, 13), (⟨"ProcessMiner$Log", "hasNext", "()Z"⟩, 13), (⟨"ProcessMiner$Log", "isCutByChoice", "()Z"⟩, 13), (⟨"ProcessMiner$Log", "linkNeighbours", "()V"⟩, 13), (⟨"ProcessMiner$Log", "addGroups", "(I)V"⟩, 13), (⟨"ProcessMiner$Log", "groupOf", "(II)I"⟩, 13), (⟨"ProcessMiner$Log", "isCutByOrder", "()Z"⟩, 13), (⟨"ProcessMiner$Log", "sortByReach", "()V"⟩, 13), (⟨"ProcessMiner$Log", "leadsInto", "(II)Z"⟩, 13), (⟨"ProcessMiner$Log", "isCutByBoth", "()Z"⟩, 13), (⟨"ProcessMiner$Log", "joinLacking", "()V"⟩, 13), (⟨"ProcessMiner$Log", "firstLacking", "()I"⟩, 13)]
theorem lw_r1 : ∀ q ∈ lw_privs_1, lw_okq q := List.forall_mem_cons.mpr ⟨lw_p0, List.forall_mem_cons.mpr ⟨lw_p1, List.forall_mem_cons.mpr ⟨lw_p2, List.forall_mem_cons.mpr ⟨lw_p3, List.forall_mem_cons.mpr ⟨lw_p4, List.forall_mem_cons.mpr ⟨lw_p5, List.forall_mem_cons.mpr ⟨lw_p6, List.forall_mem_cons.mpr ⟨lw_p7, List.forall_mem_cons.mpr ⟨lw_p8, List.forall_mem_cons.mpr ⟨lw_p9, List.forall_mem_cons.mpr ⟨lw_p10, List.forall_mem_cons.mpr ⟨lw_p11, List.forall_mem_cons.mpr ⟨lw_p12, List.forall_mem_cons.mpr ⟨lw_p13, List.forall_mem_cons.mpr ⟨lw_p14, List.forall_mem_cons.mpr ⟨lw_p15, fun _ h => absurd h List.not_mem_nil⟩⟩⟩⟩⟩⟩⟩⟩⟩⟩⟩⟩⟩⟩⟩⟩
theorem lw_p16 : lw_okq (⟨"ProcessMiner$Log", "joinToFirst", "(I)V"⟩, 13) := ⟨⟨by decide +kernel, by decide +kernel⟩, List.mem_of_getElem? (i := 82) (by decide +kernel), List.mem_of_getElem? (i := 287) (by decide +kernel), List.mem_of_getElem? (i := 288) (by decide +kernel)⟩
theorem lw_p17 : lw_okq (⟨"ProcessMiner$Log", "isCutByAgain", "()Z"⟩, 13) := ⟨⟨by decide +kernel, by decide +kernel⟩, List.mem_of_getElem? (i := 82) (by decide +kernel), List.mem_of_getElem? (i := 291) (by decide +kernel), List.mem_of_getElem? (i := 292) (by decide +kernel)⟩
theorem lw_p18 : lw_okq (⟨"ProcessMiner$Log", "belongsToFirst", "(I)Z"⟩, 13) := ⟨⟨by decide +kernel, by decide +kernel⟩, List.mem_of_getElem? (i := 82) (by decide +kernel), List.mem_of_getElem? (i := 295) (by decide +kernel), List.mem_of_getElem? (i := 296) (by decide +kernel)⟩
theorem lw_p19 : lw_okq (⟨"ProcessMiner$Log", "takeTrace", "(LProcessMiner$Log;IIIZ)V"⟩, 13) := ⟨⟨by decide +kernel, by decide +kernel⟩, List.mem_of_getElem? (i := 82) (by decide +kernel), List.mem_of_getElem? (i := 308) (by decide +kernel), List.mem_of_getElem? (i := 309) (by decide +kernel)⟩
theorem lw_p20 : lw_okq (⟨"ProcessMiner$Log", "openStart", "()I"⟩, 13) := ⟨⟨by decide +kernel, by decide +kernel⟩, List.mem_of_getElem? (i := 82) (by decide +kernel), List.mem_of_getElem? (i := 313) (by decide +kernel), List.mem_of_getElem? (i := 314) (by decide +kernel)⟩
theorem lw_p21 : lw_okq (⟨"java/lang/Throwable", "fillInStackTrace", "(I)Ljava/lang/Throwable;"⟩, 6) := ⟨⟨by decide +kernel, by decide +kernel⟩, List.mem_of_getElem? (i := 381) (by decide +kernel), List.mem_of_getElem? (i := 379) (by decide +kernel), List.mem_of_getElem? (i := 380) (by decide +kernel)⟩
theorem lw_p22 : lw_okq (⟨"ProcessMiner", "checkTrace", "(I)V"⟩, 10) := ⟨⟨by decide +kernel, by decide +kernel⟩, List.mem_of_getElem? (i := 16) (by decide +kernel), List.mem_of_getElem? (i := 462) (by decide +kernel), List.mem_of_getElem? (i := 463) (by decide +kernel)⟩
theorem lw_p23 : lw_okq (⟨"ProcessMiner", "countPairs", "(III)I"⟩, 10) := ⟨⟨by decide +kernel, by decide +kernel⟩, List.mem_of_getElem? (i := 16) (by decide +kernel), List.mem_of_getElem? (i := 497) (by decide +kernel), List.mem_of_getElem? (i := 498) (by decide +kernel)⟩
theorem lw_p24 : lw_okq (⟨"ProcessMiner", "checkNode", "(I)V"⟩, 10) := ⟨⟨by decide +kernel, by decide +kernel⟩, List.mem_of_getElem? (i := 16) (by decide +kernel), List.mem_of_getElem? (i := 524) (by decide +kernel), List.mem_of_getElem? (i := 525) (by decide +kernel)⟩
theorem lw_p25 : lw_okq (⟨"ProcessMiner", "checkMined", "()V"⟩, 10) := ⟨⟨by decide +kernel, by decide +kernel⟩, List.mem_of_getElem? (i := 16) (by decide +kernel), List.mem_of_getElem? (i := 528) (by decide +kernel), List.mem_of_getElem? (i := 529) (by decide +kernel)⟩
theorem lw_p26 : lw_okq (⟨"ProcessMiner$Tree", "leastByChildren", "(I)I"⟩, 7) := ⟨⟨by decide +kernel, by decide +kernel⟩, List.mem_of_getElem? (i := 26) (by decide +kernel), List.mem_of_getElem? (i := 578) (by decide +kernel), List.mem_of_getElem? (i := 579) (by decide +kernel)⟩
theorem lw_p27 : lw_okq (⟨"ProcessMiner$Tree", "leastOfChildren", "(I)I"⟩, 7) := ⟨⟨by decide +kernel, by decide +kernel⟩, List.mem_of_getElem? (i := 26) (by decide +kernel), List.mem_of_getElem? (i := 582) (by decide +kernel), List.mem_of_getElem? (i := 583) (by decide +kernel)⟩
theorem lw_p28 : lw_okq (⟨"ProcessMiner$Tree", "sumOfChildren", "(I)I"⟩, 7) := ⟨⟨by decide +kernel, by decide +kernel⟩, List.mem_of_getElem? (i := 26) (by decide +kernel), List.mem_of_getElem? (i := 590) (by decide +kernel), List.mem_of_getElem? (i := 591) (by decide +kernel)⟩
theorem lw_p29 : lw_okq (⟨"ProcessMiner$Matcher", "readFrom", "(I)V"⟩, 4) := ⟨⟨by decide +kernel, by decide +kernel⟩, List.mem_of_getElem? (i := 64) (by decide +kernel), List.mem_of_getElem? (i := 619) (by decide +kernel), List.mem_of_getElem? (i := 620) (by decide +kernel)⟩
theorem lw_p30 : lw_okq (⟨"ProcessMiner$Matcher", "endsOf", "(II)I"⟩, 4) := ⟨⟨by decide +kernel, by decide +kernel⟩, List.mem_of_getElem? (i := 64) (by decide +kernel), List.mem_of_getElem? (i := 623) (by decide +kernel), List.mem_of_getElem? (i := 624) (by decide +kernel)⟩
theorem lw_p31 : lw_okq (⟨"ProcessMiner$Matcher", "endsOfLabel", "(II)I"⟩, 4) := ⟨⟨by decide +kernel, by decide +kernel⟩, List.mem_of_getElem? (i := 64) (by decide +kernel), List.mem_of_getElem? (i := 627) (by decide +kernel), List.mem_of_getElem? (i := 628) (by decide +kernel)⟩
def lw_privs_2 : List (MethodName × Nat) := [(⟨"ProcessMiner$Log", "joinToFirst", "(I)V"⟩, 13), (⟨"ProcessMiner$Log", "isCutByAgain", "()Z"⟩, 13), (⟨"ProcessMiner$Log", "belongsToFirst", "(I)Z"⟩, 13), (⟨"ProcessMiner$Log", "takeTrace", "(LProcessMiner$Log;IIIZ)V"⟩, 13), (⟨"ProcessMiner$Log", "openStart", "()I"⟩, 13), (⟨"java/lang/Throwable", "fillInStackTrace", "(I)Ljava/lang/Throwable;"⟩, 6), (⟨"ProcessMiner", "checkTrace", "(I)V"⟩, 10), (⟨"ProcessMiner", "countPairs", "(III)I"⟩, 10), (⟨"ProcessMiner", "checkNode", "(I)V"⟩, 10), (⟨"ProcessMiner", "checkMined", "()V"⟩, 10), (⟨"ProcessMiner$Tree", "leastByChildren", "(I)I"⟩, 7), (⟨"ProcessMiner$Tree", "leastOfChildren", "(I)I"⟩, 7), (⟨"ProcessMiner$Tree", "sumOfChildren", "(I)I"⟩, 7), (⟨"ProcessMiner$Matcher", "readFrom", "(I)V"⟩, 4), (⟨"ProcessMiner$Matcher", "endsOf", "(II)I"⟩, 4), (⟨"ProcessMiner$Matcher", "endsOfLabel", "(II)I"⟩, 4)]
theorem lw_r2 : ∀ q ∈ lw_privs_2, lw_okq q := List.forall_mem_cons.mpr ⟨lw_p16, List.forall_mem_cons.mpr ⟨lw_p17, List.forall_mem_cons.mpr ⟨lw_p18, List.forall_mem_cons.mpr ⟨lw_p19, List.forall_mem_cons.mpr ⟨lw_p20, List.forall_mem_cons.mpr ⟨lw_p21, List.forall_mem_cons.mpr ⟨lw_p22, List.forall_mem_cons.mpr ⟨lw_p23, List.forall_mem_cons.mpr ⟨lw_p24, List.forall_mem_cons.mpr ⟨lw_p25, List.forall_mem_cons.mpr ⟨lw_p26, List.forall_mem_cons.mpr ⟨lw_p27, List.forall_mem_cons.mpr ⟨lw_p28, List.forall_mem_cons.mpr ⟨lw_p29, List.forall_mem_cons.mpr ⟨lw_p30, List.forall_mem_cons.mpr ⟨lw_p31, fun _ h => absurd h List.not_mem_nil⟩⟩⟩⟩⟩⟩⟩⟩⟩⟩⟩⟩⟩⟩⟩⟩
theorem lw_p32 : lw_okq (⟨"ProcessMiner$Matcher", "endsOfAlternatives", "(III)I"⟩, 4) := ⟨⟨by decide +kernel, by decide +kernel⟩, List.mem_of_getElem? (i := 64) (by decide +kernel), List.mem_of_getElem? (i := 631) (by decide +kernel), List.mem_of_getElem? (i := 632) (by decide +kernel)⟩
theorem lw_p33 : lw_okq (⟨"ProcessMiner$Matcher", "endsOfChild", "(III)I"⟩, 4) := ⟨⟨by decide +kernel, by decide +kernel⟩, List.mem_of_getElem? (i := 64) (by decide +kernel), List.mem_of_getElem? (i := 636) (by decide +kernel), List.mem_of_getElem? (i := 637) (by decide +kernel)⟩
theorem lw_p34 : lw_okq (⟨"ProcessMiner$Matcher", "endsOfOrder", "(II)I"⟩, 4) := ⟨⟨by decide +kernel, by decide +kernel⟩, List.mem_of_getElem? (i := 64) (by decide +kernel), List.mem_of_getElem? (i := 640) (by decide +kernel), List.mem_of_getElem? (i := 641) (by decide +kernel)⟩
theorem lw_p35 : lw_okq (⟨"ProcessMiner$Matcher", "endsOfBoth", "(II)I"⟩, 4) := ⟨⟨by decide +kernel, by decide +kernel⟩, List.mem_of_getElem? (i := 64) (by decide +kernel), List.mem_of_getElem? (i := 645) (by decide +kernel), List.mem_of_getElem? (i := 646) (by decide +kernel)⟩
theorem lw_p36 : lw_okq (⟨"ProcessMiner$Matcher", "allEnds", "(I)I"⟩, 4) := ⟨⟨by decide +kernel, by decide +kernel⟩, List.mem_of_getElem? (i := 64) (by decide +kernel), List.mem_of_getElem? (i := 649) (by decide +kernel), List.mem_of_getElem? (i := 650) (by decide +kernel)⟩
theorem lw_p37 : lw_okq (⟨"ProcessMiner$Matcher", "endsOfAgain", "(II)I"⟩, 4) := ⟨⟨by decide +kernel, by decide +kernel⟩, List.mem_of_getElem? (i := 64) (by decide +kernel), List.mem_of_getElem? (i := 653) (by decide +kernel), List.mem_of_getElem? (i := 654) (by decide +kernel)⟩
theorem lw_p38 : lw_okq (⟨"ProcessMiner$Matcher", "isWhole", "()Z"⟩, 4) := ⟨⟨by decide +kernel, by decide +kernel⟩, List.mem_of_getElem? (i := 64) (by decide +kernel), List.mem_of_getElem? (i := 657) (by decide +kernel), List.mem_of_getElem? (i := 658) (by decide +kernel)⟩
theorem lw_p39 : lw_okq (⟨"ProcessMinerModel", "fail", "(I)I"⟩, 13) := ⟨⟨by decide +kernel, by decide +kernel⟩, List.mem_of_getElem? (i := 690) (by decide +kernel), List.mem_of_getElem? (i := 747) (by decide +kernel), List.mem_of_getElem? (i := 748) (by decide +kernel)⟩
theorem lw_p40 : lw_okq (⟨"ProcessMinerModel", "isTrace", "(I)Z"⟩, 13) := ⟨⟨by decide +kernel, by decide +kernel⟩, List.mem_of_getElem? (i := 690) (by decide +kernel), List.mem_of_getElem? (i := 762) (by decide +kernel), List.mem_of_getElem? (i := 763) (by decide +kernel)⟩
theorem lw_p41 : lw_okq (⟨"ProcessMinerModel", "countOf", "(II)I"⟩, 13) := ⟨⟨by decide +kernel, by decide +kernel⟩, List.mem_of_getElem? (i := 690) (by decide +kernel), List.mem_of_getElem? (i := 790) (by decide +kernel), List.mem_of_getElem? (i := 791) (by decide +kernel)⟩
theorem lw_p42 : lw_okq (⟨"ProcessMinerModel", "mineInto", "([[II)V"⟩, 13) := ⟨⟨by decide +kernel, by decide +kernel⟩, List.mem_of_getElem? (i := 690) (by decide +kernel), List.mem_of_getElem? (i := 822) (by decide +kernel), List.mem_of_getElem? (i := 823) (by decide +kernel)⟩
theorem lw_p43 : lw_okq (⟨"ProcessMinerModel", "add", "(III)I"⟩, 13) := ⟨⟨by decide +kernel, by decide +kernel⟩, List.mem_of_getElem? (i := 690) (by decide +kernel), List.mem_of_getElem? (i := 829) (by decide +kernel), List.mem_of_getElem? (i := 830) (by decide +kernel)⟩
theorem lw_p44 : lw_okq (⟨"ProcessMinerModel", "mineChoice", "([[II[II)Z"⟩, 13) := ⟨⟨by decide +kernel, by decide +kernel⟩, List.mem_of_getElem? (i := 690) (by decide +kernel), List.mem_of_getElem? (i := 840) (by decide +kernel), List.mem_of_getElem? (i := 841) (by decide +kernel)⟩
theorem lw_p45 : lw_okq (⟨"ProcessMinerModel", "mineOrder", "([[II[II)Z"⟩, 13) := ⟨⟨by decide +kernel, by decide +kernel⟩, List.mem_of_getElem? (i := 690) (by decide +kernel), List.mem_of_getElem? (i := 853) (by decide +kernel), List.mem_of_getElem? (i := 854) (by decide +kernel)⟩
theorem lw_p46 : lw_okq (⟨"ProcessMinerModel", "mineBoth", "([[II[II)Z"⟩, 13) := ⟨⟨by decide +kernel, by decide +kernel⟩, List.mem_of_getElem? (i := 690) (by decide +kernel), List.mem_of_getElem? (i := 867) (by decide +kernel), List.mem_of_getElem? (i := 868) (by decide +kernel)⟩
theorem lw_p47 : lw_okq (⟨"ProcessMinerModel", "mineAgain", "([[II[II)Z"⟩, 13) := ⟨⟨by decide +kernel, by decide +kernel⟩, List.mem_of_getElem? (i := 690) (by decide +kernel), List.mem_of_getElem? (i := 876) (by decide +kernel), List.mem_of_getElem? (i := 877) (by decide +kernel)⟩
def lw_privs_3 : List (MethodName × Nat) := [(⟨"ProcessMiner$Matcher", "endsOfAlternatives", "(III)I"⟩, 4), (⟨"ProcessMiner$Matcher", "endsOfChild", "(III)I"⟩, 4), (⟨"ProcessMiner$Matcher", "endsOfOrder", "(II)I"⟩, 4), (⟨"ProcessMiner$Matcher", "endsOfBoth", "(II)I"⟩, 4), (⟨"ProcessMiner$Matcher", "allEnds", "(I)I"⟩, 4), (⟨"ProcessMiner$Matcher", "endsOfAgain", "(II)I"⟩, 4), (⟨"ProcessMiner$Matcher", "isWhole", "()Z"⟩, 4), (⟨"ProcessMinerModel", "fail", "(I)I"⟩, 13), (⟨"ProcessMinerModel", "isTrace", "(I)Z"⟩, 13), (⟨"ProcessMinerModel", "countOf", "(II)I"⟩, 13), (⟨"ProcessMinerModel", "mineInto", "([[II)V"⟩, 13), (⟨"ProcessMinerModel", "add", "(III)I"⟩, 13), (⟨"ProcessMinerModel", "mineChoice", "([[II[II)Z"⟩, 13), (⟨"ProcessMinerModel", "mineOrder", "([[II[II)Z"⟩, 13), (⟨"ProcessMinerModel", "mineBoth", "([[II[II)Z"⟩, 13), (⟨"ProcessMinerModel", "mineAgain", "([[II[II)Z"⟩, 13)]
theorem lw_r3 : ∀ q ∈ lw_privs_3, lw_okq q := List.forall_mem_cons.mpr ⟨lw_p32, List.forall_mem_cons.mpr ⟨lw_p33, List.forall_mem_cons.mpr ⟨lw_p34, List.forall_mem_cons.mpr ⟨lw_p35, List.forall_mem_cons.mpr ⟨lw_p36, List.forall_mem_cons.mpr ⟨lw_p37, List.forall_mem_cons.mpr ⟨lw_p38, List.forall_mem_cons.mpr ⟨lw_p39, List.forall_mem_cons.mpr ⟨lw_p40, List.forall_mem_cons.mpr ⟨lw_p41, List.forall_mem_cons.mpr ⟨lw_p42, List.forall_mem_cons.mpr ⟨lw_p43, List.forall_mem_cons.mpr ⟨lw_p44, List.forall_mem_cons.mpr ⟨lw_p45, List.forall_mem_cons.mpr ⟨lw_p46, List.forall_mem_cons.mpr ⟨lw_p47, fun _ h => absurd h List.not_mem_nil⟩⟩⟩⟩⟩⟩⟩⟩⟩⟩⟩⟩⟩⟩⟩⟩
theorem lw_p48 : lw_okq (⟨"ProcessMinerModel", "asks", "(II)Z"⟩, 13) := ⟨⟨by decide +kernel, by decide +kernel⟩, List.mem_of_getElem? (i := 690) (by decide +kernel), List.mem_of_getElem? (i := 890) (by decide +kernel), List.mem_of_getElem? (i := 891) (by decide +kernel)⟩
theorem lw_p49 : lw_okq (⟨"ProcessMinerModel", "childCount", "(I)I"⟩, 13) := ⟨⟨by decide +kernel, by decide +kernel⟩, List.mem_of_getElem? (i := 690) (by decide +kernel), List.mem_of_getElem? (i := 906) (by decide +kernel), List.mem_of_getElem? (i := 907) (by decide +kernel)⟩
theorem lw_p50 : lw_okq (⟨"ProcessMinerModel", "childOf", "(II)I"⟩, 13) := ⟨⟨by decide +kernel, by decide +kernel⟩, List.mem_of_getElem? (i := 690) (by decide +kernel), List.mem_of_getElem? (i := 914) (by decide +kernel), List.mem_of_getElem? (i := 915) (by decide +kernel)⟩
theorem lw_p51 : lw_okq (⟨"ProcessMinerModel", "shortestOf", "(I)I"⟩, 13) := ⟨⟨by decide +kernel, by decide +kernel⟩, List.mem_of_getElem? (i := 690) (by decide +kernel), List.mem_of_getElem? (i := 922) (by decide +kernel), List.mem_of_getElem? (i := 923) (by decide +kernel)⟩
theorem lw_p52 : lw_okq (⟨"ProcessMinerModel", "isTraceWord", "(I)Z"⟩, 13) := ⟨⟨by decide +kernel, by decide +kernel⟩, List.mem_of_getElem? (i := 690) (by decide +kernel), List.mem_of_getElem? (i := 934) (by decide +kernel), List.mem_of_getElem? (i := 935) (by decide +kernel)⟩
theorem lw_p53 : lw_okq (⟨"ProcessMinerModel", "isWord", "(II)Z"⟩, 13) := ⟨⟨by decide +kernel, by decide +kernel⟩, List.mem_of_getElem? (i := 690) (by decide +kernel), List.mem_of_getElem? (i := 938) (by decide +kernel), List.mem_of_getElem? (i := 939) (by decide +kernel)⟩
theorem lw_p54 : lw_okq (⟨"ProcessMinerModel", "placesOf", "(II)I"⟩, 13) := ⟨⟨by decide +kernel, by decide +kernel⟩, List.mem_of_getElem? (i := 690) (by decide +kernel), List.mem_of_getElem? (i := 942) (by decide +kernel), List.mem_of_getElem? (i := 943) (by decide +kernel)⟩
theorem lw_p55 : lw_okq (⟨"ProcessMinerModel", "isOrder", "(III)Z"⟩, 13) := ⟨⟨by decide +kernel, by decide +kernel⟩, List.mem_of_getElem? (i := 690) (by decide +kernel), List.mem_of_getElem? (i := 946) (by decide +kernel), List.mem_of_getElem? (i := 947) (by decide +kernel)⟩
theorem lw_p56 : lw_okq (⟨"ProcessMinerModel", "isAgain", "(II)Z"⟩, 13) := ⟨⟨by decide +kernel, by decide +kernel⟩, List.mem_of_getElem? (i := 690) (by decide +kernel), List.mem_of_getElem? (i := 956) (by decide +kernel), List.mem_of_getElem? (i := 957) (by decide +kernel)⟩
theorem lw_p57 : lw_okq (⟨"ProcessMinerModel", "goesOn", "(III)Z"⟩, 13) := ⟨⟨by decide +kernel, by decide +kernel⟩, List.mem_of_getElem? (i := 690) (by decide +kernel), List.mem_of_getElem? (i := 960) (by decide +kernel), List.mem_of_getElem? (i := 961) (by decide +kernel)⟩
theorem lw_p58 : lw_okq (⟨"ProcessMinerModel", "areWords", "(II)Z"⟩, 13) := ⟨⟨by decide +kernel, by decide +kernel⟩, List.mem_of_getElem? (i := 690) (by decide +kernel), List.mem_of_getElem? (i := 964) (by decide +kernel), List.mem_of_getElem? (i := 965) (by decide +kernel)⟩
def lw_privs_4 : List (MethodName × Nat) := [(⟨"ProcessMinerModel", "asks", "(II)Z"⟩, 13), (⟨"ProcessMinerModel", "childCount", "(I)I"⟩, 13), (⟨"ProcessMinerModel", "childOf", "(II)I"⟩, 13), (⟨"ProcessMinerModel", "shortestOf", "(I)I"⟩, 13), (⟨"ProcessMinerModel", "isTraceWord", "(I)Z"⟩, 13), (⟨"ProcessMinerModel", "isWord", "(II)Z"⟩, 13), (⟨"ProcessMinerModel", "placesOf", "(II)I"⟩, 13), (⟨"ProcessMinerModel", "isOrder", "(III)Z"⟩, 13), (⟨"ProcessMinerModel", "isAgain", "(II)Z"⟩, 13), (⟨"ProcessMinerModel", "goesOn", "(III)Z"⟩, 13), (⟨"ProcessMinerModel", "areWords", "(II)Z"⟩, 13)]
theorem lw_r4 : ∀ q ∈ lw_privs_4, lw_okq q := List.forall_mem_cons.mpr ⟨lw_p48, List.forall_mem_cons.mpr ⟨lw_p49, List.forall_mem_cons.mpr ⟨lw_p50, List.forall_mem_cons.mpr ⟨lw_p51, List.forall_mem_cons.mpr ⟨lw_p52, List.forall_mem_cons.mpr ⟨lw_p53, List.forall_mem_cons.mpr ⟨lw_p54, List.forall_mem_cons.mpr ⟨lw_p55, List.forall_mem_cons.mpr ⟨lw_p56, List.forall_mem_cons.mpr ⟨lw_p57, List.forall_mem_cons.mpr ⟨lw_p58, fun _ h => absurd h List.not_mem_nil⟩⟩⟩⟩⟩⟩⟩⟩⟩⟩⟩
def lw_privs : List (MethodName × Nat) := lw_privs_1 ++ (lw_privs_2 ++ (lw_privs_3 ++ (lw_privs_4)))
def lw_tbl : List Cond := k2_sels lw_privs ++ tables_1
theorem lw_privs_ok : ∀ q ∈ lw_privs, lw_okq q := by
  show ∀ q ∈ lw_privs_1 ++ (lw_privs_2 ++ (lw_privs_3 ++ (lw_privs_4))), lw_okq q
  exact List.forall_mem_append.mpr ⟨lw_r1, List.forall_mem_append.mpr ⟨lw_r2, List.forall_mem_append.mpr ⟨lw_r3, lw_r4⟩⟩⟩
/-- the streams that the claim lets the run draw from -/
abbrev lw_cs : List Choice := [Jvm.Choice.named "NaN.bits"]
theorem lw_bits : nanBits ∈ lw_cs := by first | decide | exact List.mem_cons_self | simp [lw_cs, nanBits]
/-! ===== BEGIN words of one list among another's, by their places ===== -/
theorem goodIn_r {big : List Cond} (ws : List Cond) (ps : List Nat) (hp : ws = ps.filterMap (fun i => big[i]?)) (h : ws.all goodWord = true) : GoodIn big ws := by
  intro w hw
  have h1 := List.all_eq_true.mp h w hw
  rw [hp] at hw
  obtain ⟨i, -, hi⟩ := List.mem_filterMap.mp hw
  have hm : w ∈ big := by first | exact List.mem_of_getElem? hi | exact List.getElem?_mem hi
  exact ⟨hm, good_of_word h1⟩
theorem goodIn_app {big a b : List Cond} (ha : GoodIn big a) (hb : GoodIn big b) : GoodIn big (a ++ b) := fun w h => (List.mem_append.mp h).elim (ha w) (hb w)
theorem goodIn_ca {big a b : List Cond} {c : Cond} (ha : GoodIn big (c :: a)) (hb : GoodIn big b) : GoodIn big (c :: (a ++ b)) := fun w h => (List.mem_cons.mp h).elim (fun e => ha w (List.mem_cons.mpr (Or.inl e))) (fun h => (List.mem_append.mp h).elim (fun h => ha w (List.mem_cons.mpr (Or.inr h))) (hb w))
theorem goodIn_sub {big ws : List Cond} (hm : ∀ w ∈ ws, w ∈ big) (h : ws.all goodWord = true) : GoodIn big ws := fun w hw => ⟨hm w hw, good_of_word (List.all_eq_true.mp h w hw)⟩
/-! ===== END ===== -/

/-! ===== BEGIN exceptions that leave a method, and their catching by the caller (launches without stack traces) ===== -/
section VXA
/-! The laws vx_back, vx_callV, vx_callS, vx_callSW, vx_throw0, vx_throwS follow proofs of the library, with one case more: JvmDerived/Free/Laws.lean (Back.of_free), Shelf42/LK1.lean (callV, callS), Shelf/KitTraced.lean (throwNew0V, throwNewS). -/
/-- where a method has thrown q: the class by its name, the cell, what was written, the world -/
def vx_T (XC : String → State → State → Prop) (st : State) (q : Addr) (t : State) (mc ms : Nat) (free : Addr → Prop) : Prop :=
  ∃ (E : String) (ce : Cell) (L : List Loc), XC E st t ∧ t.heap[q]? = some ce ∧ ce.vm = .none ∧ st.vm.findClass E = some ce.cls ∧ st.WarmedH t.vm ∧ st.sameButNew ({ t with vm := st.vm } : State) L mc ms ∧ ∀ z ∈ L, free z.base
def vx_Q (Qc : Array Value → State → Outcome → State → Prop) (XC : String → State → State → Prop) (mc ms : Nat) (free : Addr → Prop) : Array Value → State → Outcome → State → Prop := fun a st o t =>
  (Qc a st o t ∧ ∃ L, FrameEnd st o t L mc ms ∧ ∀ q ∈ L, free q.base) ∨ ∃ q, o = .threw q ∧ vx_T XC st q t mc ms free
/-- a callee that returns or throws -/
def vx_Met (l : Launch) (y : MethodName) (ws : List Cond) (rm : Room) (Pc : Array Value → State → Prop) (Qc : Array Value → State → Outcome → State → Prop) (XC : String → State → State → Prop) (mc ms : Nat) (free : Addr → Prop) : Prop :=
  MetFree l y (headSpec ws rm) Pc (fun _ _ _ _ _ => True) (vx_Q Qc XC mc ms free)
def vx_Post (XC : String → State → State → Prop) (mc ms : Nat) (free : Addr → Prop) : Pt → Array Value → Addr → Pt → Prop := fun A a q B =>
  ∃ (g : JFrame) (mk : MethodId) (t : State) (L : List Loc) (E : String) (ce : Cell), B.U.heap = t.heap ∧ B.U.vm = t.vm ∧ XC E (A.U.calling g mk a) t ∧ t.heap[q]? = some ce ∧ ce.vm = .none ∧ A.U.vm.findClass E = some ce.cls ∧ B.locs = A.locs ++ L ∧ (∀ z ∈ L, free z.base) ∧ B.cells = A.cells + mc ∧ B.slots = A.slots + ms
def vx_Back (l : Launch) (R : Room) (p : Program) (e : Env) (below : List Frame) (s : State) (sargs : Array Value) (y : MethodName) (len W9 : Nat)
    (Pre : Pt → Array Value → Prop) (Post : Pt → Array Value → Option Value → Pt → Prop) (PostX : Pt → Array Value → Addr → Pt → Prop) : Prop :=
  ∀ (m : MethodId) (meth : Method) (c : Code) (A : Pt) (g : JFrame) (ig : Instr) (mk : MethodId) (a : Array Value),
    Stand p l e R s m sargs below meth c A.U A.locs A.cells A.slots → g.method = m → g.locals.size = c.maxLocals → decode c.code g.pc = .ok (ig, len) →
    2 * g.monitorRoom + (g.stack.map fun v => v.category).sum ≤ W9 → A.U.methodNamed? y = some mk → Pre A a →
    (∃ (v : Option Value) (B : Pt), Stand p l e R s m sargs below meth c B.U B.locs B.cells B.slots ∧ Post A a v B ∧
      Steps p.tables e below (doInvoke e (A.U.setTop g) [] mk a).1 (B.U.setTop { g with pc := g.pc + len, stack := v.toList ++ g.stack })) ∨
    (∃ (q : Addr) (B : Pt), Stand p l e R s m sargs below meth c B.U B.locs B.cells B.slots ∧ PostX A a q B ∧
      Steps p.tables e below (doInvoke e (A.U.setTop g) [] mk a).1 ((B.U.setTop g).pushFrame (.throwing q)))
section Payer
variable {l : Launch} {R : Room} {p : Program} {e : Env} {below : List Frame} {s : State} {sargs : Array Value} {y : MethodName} {len W9 : Nat}
theorem vx_back {ws : List Cond} {rm : Room} {Pc : Array Value → State → Prop} {Qc : Array Value → State → Outcome → State → Prop} {XC : String → State → State → Prop} {mc ms : Nat} {free : Addr → Prop} {bytes : ByteArray} {maxL : Nat} {ret : Option FieldType}
    (hM : vx_Met l y ws rm Pc Qc XC mc ms free) (hblind : FrameBlind Pc) (hrc : rm.cells = mc) (hrs : rm.slots = ms)
    (hframes : rm.frames + 1 ≤ R.frames) (hlocals : W9 + (maxL + 11) + rm.locals ≤ R.locals)
    (hws : ∀ w ∈ ws, ∀ a' U, s.WarmedH U.vm → w.before a' U = true) (hcode : Cond.code y bytes maxL ret ∈ ws) (hinit : ∀ a' U, s.WarmedH U.vm → (Cond.initialized y.cls).before a' U = true) :
    vx_Back l R p e below s sargs y len W9 (PreOf R mc ms Pc) (PostOf Qc mc ms free) (vx_Post XC mc ms free) := by
  intro m meth c A g ig mk a X hg hsize hdg hW hn hp
  have h1 : (headSpec ws rm).pre.before a A.U = true := atoms_intro fun w hw => hws w hw _ _ X.warmed
  have h2 : (Cond.code y bytes maxL ret).before a A.U = true := hws _ hcode _ _ X.warmed
  have h3 : (Cond.initialized y.cls).before a A.U = true := hinit _ _ X.warmed
  have h4 : A.cells + (headSpec ws rm).room.cells ≤ R.cells := by rw [show (headSpec ws rm).room.cells = mc from hrc]; exact hp.1
  have h5 : A.slots + (headSpec ws rm).room.slots ≤ R.slots := by rw [show (headSpec ws rm).room.slots = ms from hrs]; exact hp.2.1
  have hPc : Pc a (A.U.calling g mk a) := hblind _ _ _ _ hp.2.2
  obtain ⟨U, Ls, c0, s0⟩ := A
  dsimp only [Pt.U, Pt.locs, Pt.cells, Pt.slots] at h1 h2 h3 h4 h5 X hn hPc ⊢
  obtain ⟨methY, cY, hmY, hcY, -, hlY, -, -, -, -⟩ := Cond.code_spec hn h2
  obtain ⟨kY, hkY, -⟩ := className_of_methodNamed hn
  have hinitY : kY.init = .initialized := Cond.initialized_spec (findClass_of_methodNamed hn) hkY h3
  have h : At U g.method c below := by rw [hg]; exact X.here
  have hlocals9 : W9 + (maxL + 11) + (headSpec ws rm).room.locals ≤ R.locals := hlocals
  have happ : (headSpec ws rm).appliesLoose y e.platform (U.calling g mk a) = true :=
    Spec.appliesLoose_calling (g := g) h hdg hn hkY hinitY
      (X.room_calling (g := g) (R' := (headSpec ws rm).room) hsize hmY hcY hframes (by rw [hlY]; omega) h4 h5) h1
  obtain ⟨mid, hmid⟩ := h.above
  have hfr : (U.setTop g).frames = (.java g :: mid) ++ below := by rw [State.frames_setTop' g h.top, hmid]; rfl
  obtain ⟨o, s₂, hsteps, -, hend, hq⟩ := Steps.callFree hM p X.admits X.cas X.clock (acts := []) hfr happ hPc trivial
  have hq' : vx_Q Qc XC mc ms free a (U.calling g mk a) o s₂ := hq
  rw [State.frames_setTop' g h.top] at hend
  obtain ⟨g₀, hg0⟩ := Option.isSome_iff_exists.mp h.top
  obtain ⟨r, hr⟩ := State.topJava?_eq_some.mp hg0
  have hr' : (({ U with heap := s₂.heap, slotsUsed := s₂.slotsUsed } : State).setVm s₂.vm).frames = .java g₀ :: r := hr
  rcases hq' with ⟨hqc, L, hfe, hL⟩ | ⟨q, rfl, E, ce, L, hx, hce, hcv, hcl, hW₂, hsm, hL⟩
  · obtain ⟨⟨v, rfl⟩, hW₂, e2, q2, q3, q4, q5, q6⟩ := id hfe
    have e3 : s₂ = ({ (U.calling g mk a).setFrames s₂.frames with heap := s₂.heap, slotsUsed := s₂.slotsUsed } : State).setVm s₂.vm := by
      have : s₂ = ({ s₂ with vm := (U.calling g mk a).vm } : State).setVm s₂.vm := rfl
      rw [e2] at this
      exact this
    obtain ⟨c₂, i₂, len₂, hc₂, hd₂, hf₂⟩ := hend
    have hW' : U.WarmedH s₂.vm := hW₂
    have hcc : c₂ = c := by
      have h1 : s₂.code? g.method = U.code? g.method := by
        rw [State.code?_eq, State.code?_eq, hW'.alike.method?]
      exact Option.some.inj (hc₂.symm.trans (h1.trans h.code))
    subst hcc
    have hlen : len₂ = len := by rw [hdg] at hd₂; cases hd₂; rfl
    subst hlen
    have hs₂ : s₂ = (({ U with heap := s₂.heap, slotsUsed := s₂.slotsUsed } : State).setVm s₂.vm).setTop { g with pc := g.pc + len₂, stack := v.toList ++ g.stack } := by
      refine e3.trans ?_
      rw [hf₂, State.calling_eq h.top, State.setFrames_setFrames, State.setTop_of_frames _ hr', hr]
      rfl
    have hsame : U.sameButNew ({ U with heap := s₂.heap, slotsUsed := s₂.slotsUsed } : State) L mc ms := by
      refine ⟨?_, q2, q3, q4, q5, q6⟩
      obtain ⟨t, ht, -⟩ := State.frames_cons hr
      show ({ U with heap := s₂.heap, slotsUsed := s₂.slotsUsed } : State) = { U.setFrames U.frames with heap := s₂.heap, slotsUsed := s₂.slotsUsed }
      rw [State.setFrames_self ht]
    subst hg
    refine Or.inl ⟨v, ⟨(({ U with heap := s₂.heap, slotsUsed := s₂.slotsUsed } : State).setVm s₂.vm), Ls ++ L, c0 + mc, s0 + ms⟩,
      ⟨X.admits, X.cas, X.clock, X.frames, X.room, X.hears, X.method, X.code, (X.here.setHeapUsed s₂.heap s₂.slotsUsed).setVm hW'.alike, X.tail, State.WarmedH.trans X.warmed hW', X.limits, X.bytes, X.same.trans (hsame.setVm s.vm)⟩,
      ⟨g, mk, s₂, L, rfl, rfl, hqc, rfl, hL, rfl, rfl⟩, ?_⟩
    show Steps p.tables e below _ ((({ U with heap := s₂.heap, slotsUsed := s₂.slotsUsed } : State).setVm s₂.vm).setTop { g with pc := g.pc + len₂, stack := v.toList ++ g.stack })
    rw [← hs₂]
    exact hsteps
  · obtain ⟨e2, q2, q3, q4, q5, q6⟩ := id hsm
    have e3 : s₂ = ({ (U.calling g mk a).setFrames s₂.frames with heap := s₂.heap, slotsUsed := s₂.slotsUsed } : State).setVm s₂.vm := by
      have : s₂ = ({ s₂ with vm := (U.calling g mk a).vm } : State).setVm s₂.vm := rfl
      rw [e2] at this
      exact this
    have hf₂ : s₂.frames = .throwing q :: .java g :: U.frames.tail := hend
    have hW' : U.WarmedH s₂.vm := hW₂
    have hs₂ : s₂ = ((({ U with heap := s₂.heap, slotsUsed := s₂.slotsUsed } : State).setVm s₂.vm).setTop g).pushFrame (.throwing q) := by
      refine e3.trans ?_
      rw [hf₂, State.calling_eq h.top, State.setFrames_setFrames, State.pushFrame, State.frames_setTop _ hr', State.setTop_of_frames _ hr', State.setFrames_setFrames, hr]
      rfl
    have hsame : U.sameButNew ({ U with heap := s₂.heap, slotsUsed := s₂.slotsUsed } : State) L mc ms := by
      refine ⟨?_, q2, q3, q4, q5, q6⟩
      obtain ⟨t, ht, -⟩ := State.frames_cons hr
      show ({ U with heap := s₂.heap, slotsUsed := s₂.slotsUsed } : State) = { U.setFrames U.frames with heap := s₂.heap, slotsUsed := s₂.slotsUsed }
      rw [State.setFrames_self ht]
    subst hg
    refine Or.inr ⟨q, ⟨(({ U with heap := s₂.heap, slotsUsed := s₂.slotsUsed } : State).setVm s₂.vm), Ls ++ L, c0 + mc, s0 + ms⟩,
      ⟨X.admits, X.cas, X.clock, X.frames, X.room, X.hears, X.method, X.code, (X.here.setHeapUsed s₂.heap s₂.slotsUsed).setVm hW'.alike, X.tail, State.WarmedH.trans X.warmed hW', X.limits, X.bytes, X.same.trans (hsame.setVm s.vm)⟩,
      ⟨g, mk, s₂, L, E, ce, rfl, rfl, hx, hce, hcv, hcl, rfl, hL, rfl, rfl⟩, ?_⟩
    show Steps p.tables e below _ (((({ U with heap := s₂.heap, slotsUsed := s₂.slotsUsed } : State).setVm s₂.vm).setTop g).pushFrame (.throwing q))
    rw [← hs₂]
    exact hsteps
end Payer
section Calls
variable {p : Program} {l : Launch} {e : Env} {R : Room} {s : State} {m : MethodId} {args : Array Value} {below : List Frame} {meth : Method} {c : Code} {T : State} {locs : List Loc} {cells slots : Nat}
theorem vx_callV (X : Stand p l e R s m args below meth c T locs cells slots) (hexec : p.tables.exec = Jvm.exec) {own C : String} {index : Nat} {y : MethodName} {bytes : ByteArray} {maxL : Nat} {ret : Option FieldType}
    (hown : s.vm.findClass own = some m.cls) (hlink : (Cond.methodLink own index y).before args s = true) (hinst : (Cond.instanceMethod y).before args s = true) (hsel : (Cond.selects C y y).before args s = true)
    (hcode : (Cond.code y bytes maxL ret).before args s = true) (hy : y.cls ≠ "java/lang/invoke/MethodHandle" ∧ y.cls ≠ "java/lang/invoke/VarHandle")
    {W9 : Nat} {Pre : Pt → Array Value → Prop} {Post : Pt → Array Value → Option Value → Pt → Prop} {PostX : Pt → Array Value → Addr → Pt → Prop} (hK : vx_Back l R p e below s args y 3 W9 Pre Post PostX)
    {b : Addr} {cellB : Cell} (hcell : T.heap[b]? = some cellB) (hobj : cellB.vm.isStatics = false) (hcls : s.vm.findClass C = some cellB.cls)
    {g : JFrame} (hg : g.method = m) (hsize : g.locals.size = c.maxLocals) {argsL rest : List Value} (hlen : ∀ sig, parseMethodDescriptor y.desc = some sig → argsL.length = sig.parameters.length)
    (hstack : g.stack = argsL.reverse ++ .ref b :: rest) (hW : 2 * g.monitorRoom + (rest.map fun v => v.category).sum ≤ W9) (hdg : decode c.code g.pc = .ok (.invokevirtual index, 3))
    (hpre : ∀ vm₁, s.WarmedH vm₁ → Pre ⟨T.setVm vm₁, locs, cells, slots⟩ (Value.ref b :: argsL).toArray) :
    (∃ (v : Option Value) (vm₁ : Vm) (B : Pt), s.WarmedH vm₁ ∧ Stand p l e R s m args below meth c B.U B.locs B.cells B.slots ∧ Post ⟨T.setVm vm₁, locs, cells, slots⟩ (Value.ref b :: argsL).toArray v B ∧
      ∀ target, Steps p.tables e below (B.U.setTop { g with pc := g.pc + 3, stack := v.toList ++ rest }) target → Steps p.tables e below (T.setTop g) target) ∨
    (∃ (q : Addr) (vm₁ : Vm) (B : Pt), s.WarmedH vm₁ ∧ Stand p l e R s m args below meth c B.U B.locs B.cells B.slots ∧ PostX ⟨T.setVm vm₁, locs, cells, slots⟩ (Value.ref b :: argsL).toArray q B ∧
      Steps p.tables e below (T.setTop g) ((B.U.setTop { g with stack := rest }).pushFrame (.throwing q))) := by
  obtain ⟨mk, methM, hnamed, hmethM, hstM, habM⟩ := Cond.instanceMethod_spec hinst
  obtain ⟨methM', cM, hmethM', -, -, -, -, -, -, hsigM⟩ := Cond.code_spec hnamed hcode
  cases hmethM.symm.trans hmethM'
  obtain ⟨c2, r2, m2, q1, q2, q3, q4, kP, hkP, hkPi⟩ := Cond.selects_spec hsel
  cases hcls.symm.trans q1
  cases (State.methodFound?_of_named hnamed hy).symm.trans q2
  cases hnamed.symm.trans q3
  have hselP : selectMethod e.platform s.vm cellB.cls mk = .method mk := by rw [Launch.admits_selectMethod X.admits]; exact q4
  obtain ⟨vm₁, X₁, hstep₁⟩ := X.invokevirtual hexec hown hlink hnamed hmethM hstM hkP hkPi hy (a := b) (cell := cellB) hcell
    (fun z h => by rw [h] at hobj; cases hobj) hselP hmethM habM hkP hkPi (g := g) hg (argsL := argsL) (rest := rest) (hlen _ hsigM) hstack hdg
  rcases hK m meth c ⟨T.setVm vm₁, locs, cells, slots⟩ { g with stack := rest } (.invokevirtual index) mk (Value.ref b :: argsL).toArray X₁ hg hsize hdg hW (X₁.named hnamed) (hpre vm₁ X₁.warmed) with ⟨v, B, X', hpost, hsteps⟩ | ⟨q, B, X', hpost, hsteps⟩
  · exact Or.inl ⟨v, vm₁, B, X₁.warmed, X', hpost, fun target h => hstep₁ _ fun acts => by rw [doInvoke_state]; exact hsteps.trans h⟩
  · exact Or.inr ⟨q, vm₁, B, X₁.warmed, X', hpost, hstep₁ _ fun acts => by rw [doInvoke_state]; exact hsteps⟩
theorem vx_callS (X : Stand p l e R s m args below meth c T locs cells slots) (hexec : p.tables.exec = Jvm.exec) {own : String} {index : Nat} {y : MethodName} {bytes : ByteArray} {maxL : Nat} {ret : Option FieldType}
    (hown : s.vm.findClass own = some m.cls) (hlink : (Cond.methodLink own index y).before args s = true) (hstat : (Cond.static y).before args s = true) (hinit : (Cond.initialized y.cls).before args s = true)
    (hcode : (Cond.code y bytes maxL ret).before args s = true) (hy : y.cls ≠ "java/lang/invoke/MethodHandle" ∧ y.cls ≠ "java/lang/invoke/VarHandle")
    {W9 : Nat} {Pre : Pt → Array Value → Prop} {Post : Pt → Array Value → Option Value → Pt → Prop} {PostX : Pt → Array Value → Addr → Pt → Prop} (hK : vx_Back l R p e below s args y 3 W9 Pre Post PostX)
    {g : JFrame} (hg : g.method = m) (hsize : g.locals.size = c.maxLocals) {argsL rest : List Value} (hlen : ∀ sig, parseMethodDescriptor y.desc = some sig → argsL.length = sig.parameters.length)
    (hstack : g.stack = argsL.reverse ++ rest) (hW : 2 * g.monitorRoom + (rest.map fun v => v.category).sum ≤ W9) (hdg : decode c.code g.pc = .ok (.invokestatic index, 3))
    (hpre : ∀ vm₁, s.WarmedH vm₁ → Pre ⟨T.setVm vm₁, locs, cells, slots⟩ argsL.toArray) :
    (∃ (v : Option Value) (vm₁ : Vm) (B : Pt), s.WarmedH vm₁ ∧ Stand p l e R s m args below meth c B.U B.locs B.cells B.slots ∧ Post ⟨T.setVm vm₁, locs, cells, slots⟩ argsL.toArray v B ∧
      ∀ target, Steps p.tables e below (B.U.setTop { g with pc := g.pc + 3, stack := v.toList ++ rest }) target → Steps p.tables e below (T.setTop g) target) ∨
    (∃ (q : Addr) (vm₁ : Vm) (B : Pt), s.WarmedH vm₁ ∧ Stand p l e R s m args below meth c B.U B.locs B.cells B.slots ∧ PostX ⟨T.setVm vm₁, locs, cells, slots⟩ argsL.toArray q B ∧
      Steps p.tables e below (T.setTop g) ((B.U.setTop { g with stack := rest }).pushFrame (.throwing q))) := by
  obtain ⟨mk, hnamed⟩ := Cond.code_named hcode
  obtain ⟨methM, cM, hmethM, -, -, -, -, -, -, hsigM⟩ := Cond.code_spec hnamed hcode
  have hstatic : methM.isStatic = true := Cond.static_spec hnamed hmethM hstat
  obtain ⟨kP, hkP, -⟩ := className_of_methodNamed hnamed
  have hinitP : kP.init = .initialized := Cond.initialized_spec (findClass_of_methodNamed hnamed) hkP hinit
  obtain ⟨vm₁, X₁, hstep₁⟩ := X.invokestatic hexec hown hlink hnamed hmethM hstatic hkP hinitP hy (g := g) hg (argsL := argsL) (rest := rest) (hlen _ hsigM) hstack hdg
  rcases hK m meth c ⟨T.setVm vm₁, locs, cells, slots⟩ { g with stack := rest } (.invokestatic index) mk argsL.toArray X₁ hg hsize hdg hW (X₁.named hnamed) (hpre vm₁ X₁.warmed) with ⟨v, B, X', hpost, hsteps⟩ | ⟨q, B, X', hpost, hsteps⟩
  · exact Or.inl ⟨v, vm₁, B, X₁.warmed, X', hpost, fun target h => hstep₁ _ fun acts => by rw [doInvoke_state]; exact hsteps.trans h⟩
  · exact Or.inr ⟨q, vm₁, B, X₁.warmed, X', hpost, hstep₁ _ fun acts => by rw [doInvoke_state]; exact hsteps⟩
end Calls
theorem vx_cls {s : State} {T : State} {vm₁ : Vm} {E : String} {k : ClassId} (hW : s.WarmedH vm₁) (h : (T.setVm vm₁).vm.findClass E = some k) : s.vm.findClass E = some k := by
  have h1 : vm₁.findClass E = some k := h
  rw [hW.alike.findClass] at h1
  exact h1
/-- the method's frame g, with q thrown over it -/
def vx_W (p : Program) (l : Launch) (e : Env) (R : Room) (s : State) (m : MethodId) (args : Array Value) (below : List Frame) (meth : Method) (c : Code) (H : Heap) (locs : List Loc) (cells slots : Nat) (Q : State → Prop) (g : JFrame) (q : Addr) : Prop :=
  ∀ T : State, T.heap = H → Stand p l e R s m args below meth c T locs cells slots → ∃ t, Steps p.tables e below ((T.setTop g).pushFrame (.throwing q)) t ∧ Q t
def vx_Run (p : Program) (l : Launch) (e : Env) (R : Room) (s : State) (m : MethodId) (args : Array Value) (below : List Frame) (meth : Method) (c : Code) (H : Heap) (locs : List Loc) (cells slots mc ms : Nat) (g : JFrame) (rest : List Value) (Qa : State → Outcome → State → Prop) (XC : String → State → State → Prop) (free : Addr → Prop) : Prop :=
  ∀ T : State, T.heap = H → Stand p l e R s m args below meth c T locs cells slots →
    (∃ (v : Option Value) (st₀ t T' : State) (L : List Loc), st₀.heap = H ∧ Stand p l e R s m args below meth c T' (locs ++ L) (cells + mc) (slots + ms) ∧ (∀ q ∈ L, free q.base) ∧ T'.heap = t.heap ∧ T'.vm = t.vm ∧ Qa st₀ (.returned v) t ∧
      Goes p e below T g T' { g with pc := g.pc + 3, stack := v.toList ++ rest }) ∨
    (∃ (q : Addr) (st₀ t T' : State) (L : List Loc) (E : String) (ce : Cell), st₀.heap = H ∧ Stand p l e R s m args below meth c T' (locs ++ L) (cells + mc) (slots + ms) ∧ (∀ z ∈ L, free z.base) ∧ T'.heap = t.heap ∧ T'.vm = t.vm ∧ XC E st₀ t ∧ t.heap[q]? = some ce ∧ ce.vm = .none ∧ s.vm.findClass E = some ce.cls ∧
      Steps p.tables e below (T.setTop g) ((T'.setTop { g with stack := rest }).pushFrame (.throwing q)))
def vx_X {S : Type} (px : S → Prop) (B : String → S → State → Prop) (A : Nat → Prop) : String → State → State → Prop := fun E st t => ∃ u : S, px u ∧ B E u t ∧ va_F A st t
section Runs
variable {p : Program} {l : Launch} {e : Env} {R : Room} {s : State} {m : MethodId} {args : Array Value} {below : List Frame} {meth : Method} {c : Code} {H : Heap} {locs : List Loc} {cells slots : Nat}
variable {y : MethodName} {bytes cc : ByteArray} {maxL nL mc ms n index : Nat} {ret : Option FieldType} {ws : List Cond} {rm : Room} {Pc : Array Value → State → Prop} {Qc : Array Value → State → Outcome → State → Prop} {XC : String → State → State → Prop} {free : Addr → Prop} {Ts : List Cond} {own C : String} {b : Addr} {As rest : List Value} {g : JFrame}
theorem vx_callBack (cb : CallB R s args own index y bytes maxL ret ws rm mc ms n) (hM : vx_Met l y ws rm Pc Qc XC mc ms free) (hbl : FrameBlind Pc) : vx_Back l R p e below s args y 3 8 (PreOf R mc ms Pc) (PostOf Qc mc ms free) (vx_Post XC mc ms free) := by
  obtain ⟨hrc, hrs, hfr, hlo, hws, hcw, -, hini, -⟩ := cb
  exact vx_back (bytes := bytes) (maxL := maxL) (ret := ret) hM hbl hrc hrs hfr hlo hws hcw (fun a' U hW => word_at hW (Or.inl (by first | rfl | simp [Cond.onTables, Cond.keeps, Cond.steady])) hini)
theorem vx_runV (S : CallFix p m c cc nL s args Ts own) (hM : vx_Met l y ws rm Pc Qc XC mc ms free) (cw : CallW R s args own C index y bytes maxL ret ws rm mc ms n) (hp : PreV s H C b Pc As)
    (hg : g.method = m) (hn : As.length = n) (hsize : g.locals.size = nL) (hstack : g.stack = As.reverse ++ .ref b :: rest) (hW : 2 * g.monitorRoom + (rest.map fun v => v.category).sum ≤ 8) (hdg : decode cc g.pc = .ok (.invokevirtual index, 3)) (hf : cells + mc ≤ R.cells ∧ slots + ms ≤ R.slots) :
    vx_Run p l e R s m args below meth c H locs cells slots mc ms g rest (Qc (Value.ref b :: As).toArray) XC free := by
  have hK : vx_Back l R p e below s args y 3 8 (PreOf R mc ms Pc) (PostOf Qc mc ms free) (vx_Post XC mc ms free) := vx_callBack cw.1 hM hp.1
  obtain ⟨⟨-, -, -, -, -, -, hcode, -, hy, hlen, hl⟩, hin, hse⟩ := cw
  obtain ⟨hx, hb, hml, ho, -⟩ := S
  obtain ⟨-, ⟨cellB, hcB, hoB, hclB⟩, hPc⟩ := hp
  intro T hT X
  rcases vx_callV X hx (C := C) (bytes := bytes) (maxL := maxL) (ret := ret) ho hl hin hse hcode hy hK (by rw [hT]; exact hcB) hoB hclB hg (hsize.trans hml.symm) (argsL := As) (rest := rest) (fun sig h => hn.trans (hlen sig h)) hstack hW (by rw [hb]; exact hdg)
    (fun vm₁ hW₁ => ⟨hf.1, hf.2, hPc (T.setVm vm₁) hT hW₁⟩) with ⟨v, vm₁, ⟨U', l2, c2, s2⟩, hW₁, X', ⟨g', mk, t, L, e1, e2, hq, h1, hL, h2, h3⟩, st⟩ | ⟨q, vm₁, ⟨U', l2, c2, s2⟩, hW₁, X', ⟨g', mk, t, L, E, ce, e1, e2, hq, hce, hcv, hcl, h1, hL, h2, h3⟩, st⟩
  · dsimp only [Pt.U, Pt.locs, Pt.cells, Pt.slots] at X' e1 e2 h1 h2 h3 st
    subst h1; subst h2; subst h3
    exact Or.inl ⟨v, (T.setVm vm₁).calling g' mk (Value.ref b :: As).toArray, t, U', L, hT, X', hL, e1, e2, hq, st⟩
  · dsimp only [Pt.U, Pt.locs, Pt.cells, Pt.slots] at X' e1 e2 h1 h2 h3 st hcl
    subst h1; subst h2; subst h3
    exact Or.inr ⟨q, (T.setVm vm₁).calling g' mk (Value.ref b :: As).toArray, t, U', L, E, ce, hT, X', hL, e1, e2, hq, hce, hcv, vx_cls hW₁ hcl, st⟩
theorem vx_runS (S : CallFix p m c cc nL s args Ts own) (hM : vx_Met l y ws rm Pc Qc XC mc ms free) (cw : CallB R s args own index y bytes maxL ret ws rm mc ms n ∧ (Cond.static y).before args s = true) (hp : PreS s H Pc As)
    (hg : g.method = m) (hn : As.length = n) (hsize : g.locals.size = nL) (hstack : g.stack = As.reverse ++ rest) (hW : 2 * g.monitorRoom + (rest.map fun v => v.category).sum ≤ 8) (hdg : decode cc g.pc = .ok (.invokestatic index, 3)) (hf : cells + mc ≤ R.cells ∧ slots + ms ≤ R.slots) :
    vx_Run p l e R s m args below meth c H locs cells slots mc ms g rest (Qc As.toArray) XC free := by
  have hK : vx_Back l R p e below s args y 3 8 (PreOf R mc ms Pc) (PostOf Qc mc ms free) (vx_Post XC mc ms free) := vx_callBack cw.1 hM hp.1
  obtain ⟨⟨-, -, -, -, -, -, hcode, hini, hy, hlen, hl⟩, hstt⟩ := cw
  obtain ⟨hx, hb, hml, ho, -⟩ := S
  intro T hT X
  rcases vx_callS X hx (bytes := bytes) (maxL := maxL) (ret := ret) ho hl hstt hini hcode hy hK hg (hsize.trans hml.symm) (argsL := As) (rest := rest) (fun sig h => hn.trans (hlen sig h)) hstack hW (by rw [hb]; exact hdg)
    (fun vm₁ hW₁ => ⟨hf.1, hf.2, hp.2 (T.setVm vm₁) hT hW₁⟩) with ⟨v, vm₁, ⟨U', l2, c2, s2⟩, hW₁, X', ⟨g', mk, t, L, e1, e2, hq, h1, hL, h2, h3⟩, st⟩ | ⟨q, vm₁, ⟨U', l2, c2, s2⟩, hW₁, X', ⟨g', mk, t, L, E, ce, e1, e2, hq, hce, hcv, hcl, h1, hL, h2, h3⟩, st⟩
  · dsimp only [Pt.U, Pt.locs, Pt.cells, Pt.slots] at X' e1 e2 h1 h2 h3 st
    subst h1; subst h2; subst h3
    exact Or.inl ⟨v, (T.setVm vm₁).calling g' mk As.toArray, t, U', L, hT, X', hL, e1, e2, hq, st⟩
  · dsimp only [Pt.U, Pt.locs, Pt.cells, Pt.slots] at X' e1 e2 h1 h2 h3 st hcl
    subst h1; subst h2; subst h3
    exact Or.inr ⟨q, (T.setVm vm₁).calling g' mk As.toArray, t, U', L, E, ce, hT, X', hL, e1, e2, hq, hce, hcv, vx_cls hW₁ hcl, st⟩
end Runs
section Rows
variable {p : Program} {l : Launch} {e : Env} {R : Room} {s : State} {m : MethodId} {args : Array Value} {below : List Frame} {meth : Method} {c : Code} {H : Heap} {locs : List Loc} {cells slots : Nat} {Q : State → Prop}
variable {mc ms : Nat} {free : Addr → Prop} {A0 A1 : Nat → Prop} {H0 : Heap} {a : Array Value} {pc : Nat} {ls : Array Slot} {st0 rest : List Value}
theorem vx_keep {st₀ t T' : State} {L : List Loc} (h0 : st₀.heap = H) (e1 : T'.heap = t.heap) (hS : va_S A0 H0 H locs) (hA : ∀ q, q < H.size → A1 q → A0 q) (hf : ∀ q, free q → A0 q) (hL : ∀ q ∈ L, free q.base) (hF : va_F A1 st₀ t) :
    H.size ≤ T'.heap.size ∧ (∀ q : Nat, q < H.size → ¬ A1 q → T'.heap[q]? = H[q]?) ∧ va_S A0 H0 T'.heap (locs ++ L) := by
  obtain ⟨hz, hk⟩ := hF
  rw [h0] at hz hk
  exact ⟨by rw [e1]; exact hz, fun q h1 h2 => by rw [e1]; exact hk q h1 h2,
    ⟨Nat.le_trans hS.1 (by rw [e1]; exact hz), fun q h1 h2 => by rw [e1, hk q (Nat.lt_of_lt_of_le h1 hS.1) (fun z => h2 (hA q (Nat.lt_of_lt_of_le h1 hS.1) z))]; exact hS.2.1 q h1 h2, fun q hq => by
      rcases List.mem_append.mp hq with h | h
      · exact hS.2.2 q h
      · exact hf _ (hL q h)⟩⟩
theorem vx_calli {S SX : Type} {post : Int32 → S → Prop} {px : SX → Prop} {B : S → State → Prop} {BX : String → SX → State → Prop} {AX : Nat → Prop} (hr : vx_Run p l e R s m args below meth c H locs cells slots mc ms (F0 m pc ls st0) rest (va_Qi post B A1 a) (vx_X px BX AX) free) (hS : va_S A0 H0 H locs) (hA : ∀ q, q < H.size → A1 q → A0 q) (hf : ∀ q, free q → A0 q) (hAX : ∀ q, q < H.size → AX q → A0 q)
    (kx : ∀ (E : String) (ce : Cell) (q9 : Addr) (u : SX) (t : State) (H1 : Heap) (locs1 : List Loc), t.heap = H1 → s.vm.Alike t.vm → px u → BX E u t → H.size ≤ H1.size → (∀ q : Nat, q < H.size → ¬ AX q → H1[q]? = H[q]?) → va_S A0 H0 H1 locs1 → H1[q9]? = some ce → ce.vm = .none → s.vm.findClass E = some ce.cls → vx_W p l e R s m args below meth c H1 locs1 (cells + mc) (slots + ms) Q (F0 m pc ls rest) q9)
    (kk : ∀ (r : Int32) (u : S) (t : State) (H1 : Heap) (locs1 : List Loc), t.heap = H1 → s.vm.Alike t.vm → post r u → B u t → H.size ≤ H1.size → (∀ q : Nat, q < H.size → ¬ A1 q → H1[q]? = H[q]?) → va_S A0 H0 H1 locs1 → W p l e R s m args below meth c H1 locs1 (cells + mc) (slots + ms) Q (F0 m (pc + 3) ls (.int r :: rest))) : W p l e R s m args below meth c H locs cells slots Q (F0 m pc ls st0) := by
  intro T hT X
  rcases hr T hT X with ⟨v, st₀, t, T', L, h0, X', hL, e1, e2, ⟨⟨r, u, hv, hp, hb⟩, hF⟩, st⟩ | ⟨q, st₀, t, T', L, E, ce, h0, X', hL, e1, e2, ⟨u, hp, hb, hF⟩, hce, hcv, hcl, st⟩
  · cases hv
    obtain ⟨k1, k2, k3⟩ := vx_keep h0 e1 hS hA hf hL hF
    obtain ⟨t2, a1, b1⟩ := kk r u t T'.heap (locs ++ L) e1.symm (by rw [← e2]; exact X'.warmed.alike) hp hb k1 k2 k3 T' rfl X'
    exact ⟨t2, st t2 a1, b1⟩
  · obtain ⟨k1, k2, k3⟩ := vx_keep h0 e1 hS hAX hf hL hF
    obtain ⟨t2, a1, b1⟩ := kx E ce q u t T'.heap (locs ++ L) e1.symm (by rw [← e2]; exact X'.warmed.alike) hp hb k1 k2 k3 (by rw [e1]; exact hce) hcv hcl T' rfl X'
    exact ⟨t2, st.trans a1, b1⟩
theorem vx_calll {S SX : Type} {post : Int64 → S → Prop} {px : SX → Prop} {B : S → State → Prop} {BX : String → SX → State → Prop} {AX : Nat → Prop} (hr : vx_Run p l e R s m args below meth c H locs cells slots mc ms (F0 m pc ls st0) rest (va_Ql post B A1 a) (vx_X px BX AX) free) (hS : va_S A0 H0 H locs) (hA : ∀ q, q < H.size → A1 q → A0 q) (hf : ∀ q, free q → A0 q) (hAX : ∀ q, q < H.size → AX q → A0 q)
    (kx : ∀ (E : String) (ce : Cell) (q9 : Addr) (u : SX) (t : State) (H1 : Heap) (locs1 : List Loc), t.heap = H1 → s.vm.Alike t.vm → px u → BX E u t → H.size ≤ H1.size → (∀ q : Nat, q < H.size → ¬ AX q → H1[q]? = H[q]?) → va_S A0 H0 H1 locs1 → H1[q9]? = some ce → ce.vm = .none → s.vm.findClass E = some ce.cls → vx_W p l e R s m args below meth c H1 locs1 (cells + mc) (slots + ms) Q (F0 m pc ls rest) q9)
    (kk : ∀ (r : Int64) (u : S) (t : State) (H1 : Heap) (locs1 : List Loc), t.heap = H1 → s.vm.Alike t.vm → post r u → B u t → H.size ≤ H1.size → (∀ q : Nat, q < H.size → ¬ A1 q → H1[q]? = H[q]?) → va_S A0 H0 H1 locs1 → W p l e R s m args below meth c H1 locs1 (cells + mc) (slots + ms) Q (F0 m (pc + 3) ls (.long r :: rest))) : W p l e R s m args below meth c H locs cells slots Q (F0 m pc ls st0) := by
  intro T hT X
  rcases hr T hT X with ⟨v, st₀, t, T', L, h0, X', hL, e1, e2, ⟨⟨r, u, hv, hp, hb⟩, hF⟩, st⟩ | ⟨q, st₀, t, T', L, E, ce, h0, X', hL, e1, e2, ⟨u, hp, hb, hF⟩, hce, hcv, hcl, st⟩
  · cases hv
    obtain ⟨k1, k2, k3⟩ := vx_keep h0 e1 hS hA hf hL hF
    obtain ⟨t2, a1, b1⟩ := kk r u t T'.heap (locs ++ L) e1.symm (by rw [← e2]; exact X'.warmed.alike) hp hb k1 k2 k3 T' rfl X'
    exact ⟨t2, st t2 a1, b1⟩
  · obtain ⟨k1, k2, k3⟩ := vx_keep h0 e1 hS hAX hf hL hF
    obtain ⟨t2, a1, b1⟩ := kx E ce q u t T'.heap (locs ++ L) e1.symm (by rw [← e2]; exact X'.warmed.alike) hp hb k1 k2 k3 (by rw [e1]; exact hce) hcv hcl T' rfl X'
    exact ⟨t2, st.trans a1, b1⟩
theorem vx_callf {S SX : Type} {post : UInt32 → S → Prop} {px : SX → Prop} {B : S → State → Prop} {BX : String → SX → State → Prop} {AX : Nat → Prop} (hr : vx_Run p l e R s m args below meth c H locs cells slots mc ms (F0 m pc ls st0) rest (va_Qf post B A1 a) (vx_X px BX AX) free) (hS : va_S A0 H0 H locs) (hA : ∀ q, q < H.size → A1 q → A0 q) (hf : ∀ q, free q → A0 q) (hAX : ∀ q, q < H.size → AX q → A0 q)
    (kx : ∀ (E : String) (ce : Cell) (q9 : Addr) (u : SX) (t : State) (H1 : Heap) (locs1 : List Loc), t.heap = H1 → s.vm.Alike t.vm → px u → BX E u t → H.size ≤ H1.size → (∀ q : Nat, q < H.size → ¬ AX q → H1[q]? = H[q]?) → va_S A0 H0 H1 locs1 → H1[q9]? = some ce → ce.vm = .none → s.vm.findClass E = some ce.cls → vx_W p l e R s m args below meth c H1 locs1 (cells + mc) (slots + ms) Q (F0 m pc ls rest) q9)
    (kk : ∀ (r : UInt32) (u : S) (t : State) (H1 : Heap) (locs1 : List Loc), t.heap = H1 → s.vm.Alike t.vm → post r u → B u t → H.size ≤ H1.size → (∀ q : Nat, q < H.size → ¬ A1 q → H1[q]? = H[q]?) → va_S A0 H0 H1 locs1 → W p l e R s m args below meth c H1 locs1 (cells + mc) (slots + ms) Q (F0 m (pc + 3) ls (.float r :: rest))) : W p l e R s m args below meth c H locs cells slots Q (F0 m pc ls st0) := by
  intro T hT X
  rcases hr T hT X with ⟨v, st₀, t, T', L, h0, X', hL, e1, e2, ⟨⟨r, u, hv, hp, hb⟩, hF⟩, st⟩ | ⟨q, st₀, t, T', L, E, ce, h0, X', hL, e1, e2, ⟨u, hp, hb, hF⟩, hce, hcv, hcl, st⟩
  · cases hv
    obtain ⟨k1, k2, k3⟩ := vx_keep h0 e1 hS hA hf hL hF
    obtain ⟨t2, a1, b1⟩ := kk r u t T'.heap (locs ++ L) e1.symm (by rw [← e2]; exact X'.warmed.alike) hp hb k1 k2 k3 T' rfl X'
    exact ⟨t2, st t2 a1, b1⟩
  · obtain ⟨k1, k2, k3⟩ := vx_keep h0 e1 hS hAX hf hL hF
    obtain ⟨t2, a1, b1⟩ := kx E ce q u t T'.heap (locs ++ L) e1.symm (by rw [← e2]; exact X'.warmed.alike) hp hb k1 k2 k3 (by rw [e1]; exact hce) hcv hcl T' rfl X'
    exact ⟨t2, st.trans a1, b1⟩
theorem vx_calld {S SX : Type} {post : UInt64 → S → Prop} {px : SX → Prop} {B : S → State → Prop} {BX : String → SX → State → Prop} {AX : Nat → Prop} (hr : vx_Run p l e R s m args below meth c H locs cells slots mc ms (F0 m pc ls st0) rest (va_Qd post B A1 a) (vx_X px BX AX) free) (hS : va_S A0 H0 H locs) (hA : ∀ q, q < H.size → A1 q → A0 q) (hf : ∀ q, free q → A0 q) (hAX : ∀ q, q < H.size → AX q → A0 q)
    (kx : ∀ (E : String) (ce : Cell) (q9 : Addr) (u : SX) (t : State) (H1 : Heap) (locs1 : List Loc), t.heap = H1 → s.vm.Alike t.vm → px u → BX E u t → H.size ≤ H1.size → (∀ q : Nat, q < H.size → ¬ AX q → H1[q]? = H[q]?) → va_S A0 H0 H1 locs1 → H1[q9]? = some ce → ce.vm = .none → s.vm.findClass E = some ce.cls → vx_W p l e R s m args below meth c H1 locs1 (cells + mc) (slots + ms) Q (F0 m pc ls rest) q9)
    (kk : ∀ (r : UInt64) (u : S) (t : State) (H1 : Heap) (locs1 : List Loc), t.heap = H1 → s.vm.Alike t.vm → post r u → B u t → H.size ≤ H1.size → (∀ q : Nat, q < H.size → ¬ A1 q → H1[q]? = H[q]?) → va_S A0 H0 H1 locs1 → W p l e R s m args below meth c H1 locs1 (cells + mc) (slots + ms) Q (F0 m (pc + 3) ls (.double r :: rest))) : W p l e R s m args below meth c H locs cells slots Q (F0 m pc ls st0) := by
  intro T hT X
  rcases hr T hT X with ⟨v, st₀, t, T', L, h0, X', hL, e1, e2, ⟨⟨r, u, hv, hp, hb⟩, hF⟩, st⟩ | ⟨q, st₀, t, T', L, E, ce, h0, X', hL, e1, e2, ⟨u, hp, hb, hF⟩, hce, hcv, hcl, st⟩
  · cases hv
    obtain ⟨k1, k2, k3⟩ := vx_keep h0 e1 hS hA hf hL hF
    obtain ⟨t2, a1, b1⟩ := kk r u t T'.heap (locs ++ L) e1.symm (by rw [← e2]; exact X'.warmed.alike) hp hb k1 k2 k3 T' rfl X'
    exact ⟨t2, st t2 a1, b1⟩
  · obtain ⟨k1, k2, k3⟩ := vx_keep h0 e1 hS hAX hf hL hF
    obtain ⟨t2, a1, b1⟩ := kx E ce q u t T'.heap (locs ++ L) e1.symm (by rw [← e2]; exact X'.warmed.alike) hp hb k1 k2 k3 (by rw [e1]; exact hce) hcv hcl T' rfl X'
    exact ⟨t2, st.trans a1, b1⟩
theorem vx_callv {S SX : Type} {post : S → Prop} {px : SX → Prop} {B : S → State → Prop} {BX : String → SX → State → Prop} {AX : Nat → Prop} (hr : vx_Run p l e R s m args below meth c H locs cells slots mc ms (F0 m pc ls st0) rest (va_Qv post B A1 a) (vx_X px BX AX) free) (hS : va_S A0 H0 H locs) (hA : ∀ q, q < H.size → A1 q → A0 q) (hf : ∀ q, free q → A0 q) (hAX : ∀ q, q < H.size → AX q → A0 q)
    (kx : ∀ (E : String) (ce : Cell) (q9 : Addr) (u : SX) (t : State) (H1 : Heap) (locs1 : List Loc), t.heap = H1 → s.vm.Alike t.vm → px u → BX E u t → H.size ≤ H1.size → (∀ q : Nat, q < H.size → ¬ AX q → H1[q]? = H[q]?) → va_S A0 H0 H1 locs1 → H1[q9]? = some ce → ce.vm = .none → s.vm.findClass E = some ce.cls → vx_W p l e R s m args below meth c H1 locs1 (cells + mc) (slots + ms) Q (F0 m pc ls rest) q9)
    (kk : ∀ (u : S) (t : State) (H1 : Heap) (locs1 : List Loc), t.heap = H1 → s.vm.Alike t.vm → post u → B u t → H.size ≤ H1.size → (∀ q : Nat, q < H.size → ¬ A1 q → H1[q]? = H[q]?) → va_S A0 H0 H1 locs1 → W p l e R s m args below meth c H1 locs1 (cells + mc) (slots + ms) Q (F0 m (pc + 3) ls (rest))) : W p l e R s m args below meth c H locs cells slots Q (F0 m pc ls st0) := by
  intro T hT X
  rcases hr T hT X with ⟨v, st₀, t, T', L, h0, X', hL, e1, e2, ⟨⟨u, hv, hp, hb⟩, hF⟩, st⟩ | ⟨q, st₀, t, T', L, E, ce, h0, X', hL, e1, e2, ⟨u, hp, hb, hF⟩, hce, hcv, hcl, st⟩
  · cases hv
    obtain ⟨k1, k2, k3⟩ := vx_keep h0 e1 hS hA hf hL hF
    obtain ⟨t2, a1, b1⟩ := kk u t T'.heap (locs ++ L) e1.symm (by rw [← e2]; exact X'.warmed.alike) hp hb k1 k2 k3 T' rfl X'
    exact ⟨t2, st t2 a1, b1⟩
  · obtain ⟨k1, k2, k3⟩ := vx_keep h0 e1 hS hAX hf hL hF
    obtain ⟨t2, a1, b1⟩ := kx E ce q u t T'.heap (locs ++ L) e1.symm (by rw [← e2]; exact X'.warmed.alike) hp hb k1 k2 k3 (by rw [e1]; exact hce) hcv hcl T' rfl X'
    exact ⟨t2, st.trans a1, b1⟩
/-- caught by the row x of this method's table; the rows ahead don't take it -/
theorem vx_catch {own name : String} {E : String} {ce : Cell} {q : Addr} (hown : s.vm.findClass own = some m.cls) (pre : List ExceptionTableEntry) (x : ExceptionTableEntry) (suf : List ExceptionTableEntry) (hsplit : c.exceptionTable.toList = pre ++ x :: suf)
    (hpass : ∀ z ∈ pre, covers z pc = false ∨ (z.catchType ≠ 0 ∧ ∃ nm : String, (Cond.classLink own z.catchType nm).before args s = true ∧ va_Nc E nm s)) (hx : covers x pc = true) (h0 : x.catchType ≠ 0)
    (hlink : (Cond.classLink own x.catchType name).before args s = true) (hcast : (Cond.castable E name).before args s = true) (hcell : H[q]? = some ce) (hv : ce.vm = .none) (hcl : s.vm.findClass E = some ce.cls)
    (kk : W p l e R s m args below meth c H locs cells slots Q (F0 m x.handlerPc ls [.ref q])) : vx_W p l e R s m args below meth c H locs cells slots Q (F0 m pc ls rest) q := by
  intro T hT X
  have hpl : e.platform.magicAccessors = ({} : Platform).magicAccessors := by rw [X.admits.platform]
  obtain ⟨c3, c4, hc3, hc4, hasg⟩ := Cond.castable_spec hcast
  cases Option.some.inj (hc3.symm.trans hcl)
  obtain ⟨c5, hc5, hcl5⟩ := Cond.classLink_spec hown hlink e.platform hpl
  cases Option.some.inj (hc4.symm.trans hc5)
  obtain ⟨vm', X', st⟩ := X.thenCaughtThrough q (g := F0 m pc ls rest) rfl (Steps.refl _) (by rw [hT]; exact hcell) (by rw [hv]; rfl) (by obtain ⟨k9, h9, -⟩ := Vm.findClass_spec hcl; exact ⟨k9, h9⟩) pre x suf hsplit
    (fun z hz => by
      rcases hpass z hz with h | ⟨hz0, nm, hl1, hn1⟩
      · exact Or.inl h
      · obtain ⟨c6, hc6, hcl6⟩ := Cond.classLink_spec hown hl1 e.platform hpl
        obtain ⟨a8, b8, h1, h2, h3⟩ := hn1
        cases Option.some.inj (h1.symm.trans hcl)
        cases Option.some.inj (h2.symm.trans hc6)
        exact Or.inr ⟨hz0, _, hcl6, h3⟩) hx (Or.inr ⟨h0, c4, hcl5, hasg⟩)
  obtain ⟨t, a1, b1⟩ := kk (T.setVm vm') hT X'
  exact ⟨t, st.trans a1, b1⟩
end Rows
section Ends
variable {p : Program} {l : Launch} {e : Env} {R : Room} {s : State} {m : MethodId} {args : Array Value} {below : List Frame} {meth : Method} {c : Code} {H : Heap} {locs : List Loc} {cells slots : Nat} {Q : State → Prop}
variable {mc ms : Nat} {free : Addr → Prop} {A0 A1 : Nat → Prop} {H0 : Heap} {a : Array Value} {ls : Array Slot} {st0 rest : List Value}
variable {Qc : Array Value → State → Outcome → State → Prop} {XC : String → State → State → Prop}
/-- what a body that may throw owes at its end -/
def vx_MQ (below : List Frame) (Qc : Array Value → State → Outcome → State → Prop) (XC : String → State → State → Prop) (a : Array Value) (s : State) (mc ms : Nat) (free : Addr → Prop) : State → Prop := fun t =>
  ∃ o, t.status = .running ∧ Ended t below o ∧ vx_Q Qc XC mc ms free a s o t
theorem vx_ret {g : JFrame} {mc ms : Nat} (k : W p l e R s m args below meth c H locs cells slots (MQ below Qc args s mc ms free) g) : W p l e R s m args below meth c H locs cells slots (vx_MQ below Qc XC args s mc ms free) g := by
  intro T hT X
  obtain ⟨t, a1, o, b1, b2, b3, b4⟩ := k T hT X
  exact ⟨t, a1, o, b1, b2, Or.inl ⟨b3, b4⟩⟩
/-- not caught here: it goes on to the caller -/
theorem vx_widen {g : JFrame} {q : Addr} {k n : Nat} (h1 : cells ≤ k) (h2 : slots ≤ n) (kk : vx_W p l e R s m args below meth c H locs k n Q g q) : vx_W p l e R s m args below meth c H locs cells slots Q g q := fun T hT X => kk T hT (stand_widen X h1 h2)
theorem vx_out {pc : Nat} {E : String} {ce : Cell} {q : Addr} {mc ms : Nat} (hout : ∀ x ∈ c.exceptionTable.toList, covers x pc = false) (hlocks : meth.locks = false) (hcell : H[q]? = some ce) (hv : ce.vm = .none) (hcl : s.vm.findClass E = some ce.cls)
    (hx : ∀ t : State, t.heap = H → s.vm.Alike t.vm → XC E s t) (hf : ∀ z ∈ locs, free z.base) (hc : cells ≤ mc) (hs : slots ≤ ms) :
    vx_W p l e R s m args below meth c H locs cells slots (vx_MQ below Qc XC args s mc ms free) (F0 m pc ls rest) q := by
  intro T hT X
  obtain ⟨st1, hrun, hend, hW, hsm⟩ := X.leaveThrown q (g := F0 m pc ls rest) rfl rfl rfl hout hlocks
  have hcell9 : (T.setFrames (.throwing q :: below)).heap[q]? = some ce := by
    show T.heap[q]? = some ce
    rw [hT]; exact hcell
  exact ⟨_, st1, .threw q, hrun, hend, Or.inr ⟨q, rfl, E, ce, locs, hx _ hT hW.alike, hcell9, hv, hcl, hW, hsm.mono hc hs, hf⟩⟩
theorem vx_frame {U : State} {k n : Nat} (h : s.sameButNew ({ U with vm := s.vm } : State) locs k n) : s.heap.size ≤ U.heap.size ∧ ∀ q : Nat, q < s.heap.size → (∀ z ∈ locs, z.base ≠ q) → U.heap[q]? = s.heap[q]? := by
  obtain ⟨-, h2, -, -, -, h6⟩ := h
  refine ⟨h2, fun q hq hz => ?_⟩
  obtain ⟨c9, e1, e2, e3, e4⟩ := h6 q _ (Array.getElem?_eq_getElem hq)
  have hs : c9.slots = (s.heap[q]).slots := Array.ext_getElem? fun i => e4 i fun hm => hz _ hm rfl
  have h9 : c9 = s.heap[q] := by
    rw [hs] at e2
    exact e2
  have e5 : U.heap[q]? = some c9 := e1
  rw [e5, h9, Array.getElem?_eq_getElem hq]
/-- the words of a throw but the four that speak of the heap -/
def vx_no (w : Cond) : Bool := decide (w ≠ .isRef (.static Bundle.tN "UNASSIGNED_STACK" Bundle.steD)) && decide (w ≠ .isRef (.static Bundle.tN "SUPPRESSED_SENTINEL" Bundle.listD)) && decide (w ≠ .laysStatic Bundle.tN "UNASSIGNED_STACK" Bundle.steD) && decide (w ≠ .laysStatic Bundle.tN "SUPPRESSED_SENTINEL" Bundle.listD)
def vx_at0 (own : String) (ic : Nat) (X : String) (names : List String) : List Cond := (Bundle.ownAtoms0 own ic X names).filter vx_no
def vx_atS (own : String) (ic : Nat) (X : String) (names : List String) : List Cond := (Bundle.ownAtoms own ic X names).filter vx_no
/-- a word that the tables alone decide, or a good one -/
def vx_ot (w : Cond) : Bool := w.onTables || goodWord w
theorem vx_ot_at {args a' : Array Value} {s U : State} {w : Cond} (hW : s.WarmedH U.vm) (hvm : s.vm = U.vm) (hg : vx_ot w = true) (h : w.before args s = true) : w.before a' U = true := by
  simp only [vx_ot, Bool.or_eq_true] at hg
  rcases hg with hg | hg
  · exact va_tabs hg hvm h
  · exact word_at hW (good_of_word hg) h
/-- a list's words: the good ones out of the method's own list, the others by premises of their own -/
theorem vx_hat {args : Array Value} {s : State} {L B : List Cond} (h1 : ∀ w ∈ L.filter goodWord, w.before args s = true) (h2 : ∀ w ∈ L.filter (fun w => !goodWord w), w ∈ B) (h3 : ∀ w ∈ B, w.before args s = true) : ∀ w ∈ L, w.before args s = true := by
  intro w hw
  by_cases g : goodWord w = true
  · exact h1 w (List.mem_filter.mpr ⟨hw, g⟩)
  · refine h3 w (h2 w (List.mem_filter.mpr ⟨hw, ?_⟩))
    show (!goodWord w) = true
    cases hgw : goodWord w
    · rfl
    · exact absurd hgw g
theorem vx_c {args : Array Value} {s : State} {w : Cond} {B : List Cond} (h : w.before args s = true) (t : ∀ w ∈ B, w.before args s = true) : ∀ w' ∈ w :: B, w'.before args s = true := fun w' h' => (List.mem_cons.mp h').elim (fun e => by rw [e]; exact h) (t w')
theorem vx_n {args : Array Value} {s : State} : ∀ w ∈ ([] : List Cond), w.before args s = true := fun _ h => nomatch h
theorem vx_own {args : Array Value} {s : State} {L : List Cond} (h1 : ∀ w ∈ L.filter vx_no, w.before args s = true)
    (hU : (Cond.isRef (.static Bundle.tN "UNASSIGNED_STACK" Bundle.steD)).before args s = true) (hN : (Cond.isRef (.static Bundle.tN "SUPPRESSED_SENTINEL" Bundle.listD)).before args s = true)
    (lU : (Cond.laysStatic Bundle.tN "UNASSIGNED_STACK" Bundle.steD).before args s = true) (lN : (Cond.laysStatic Bundle.tN "SUPPRESSED_SENTINEL" Bundle.listD).before args s = true) : ∀ w ∈ L, w.before args s = true := by
  intro w hw
  by_cases e1 : w = .isRef (.static Bundle.tN "UNASSIGNED_STACK" Bundle.steD)
  · rw [e1]; exact hU
  · by_cases e2 : w = .isRef (.static Bundle.tN "SUPPRESSED_SENTINEL" Bundle.listD)
    · rw [e2]; exact hN
    · by_cases e3 : w = .laysStatic Bundle.tN "UNASSIGNED_STACK" Bundle.steD
      · rw [e3]; exact lU
      · by_cases e4 : w = .laysStatic Bundle.tN "SUPPRESSED_SENTINEL" Bundle.listD
        · rw [e4]; exact lN
        · exact h1 w (List.mem_filter.mpr ⟨hw, by unfold vx_no; rw [decide_eq_true e1, decide_eq_true e2, decide_eq_true e3, decide_eq_true e4]; rfl⟩)
/-- where a static field lies, its class's statics cell in H -/
def vx_L (C n d : String) (A : Nat → Prop) (U : State) (H : Heap) : Prop := ∃ (c : ClassId) (k : Class) (i : Nat) (f : Field) (a : Nat) (cell : Cell), U.vm.findClass C = some c ∧ U.fieldFound? C n d = some (c, k, i, f) ∧ f.isStatic = true ∧ k.statics = some a ∧ H[a]? = some cell ∧ cell.vm.isStatics = true ∧ cell.cls = c ∧ f.slot < cell.slots.size ∧ k.staticTypes[f.slot]? = some f.type ∧ ¬ A a
theorem vx_L.moved {C n d : String} {A : Nat → Prop} {u U : State} {H : Heap} (hvm : u.vm.Alike U.vm) (h : vx_L C n d A u H) : vx_L C n d A U H := by
  obtain ⟨c, k, i, f, a, cell, h1, h2, h3, h4, h5, h6, h7, h8, h9, h10⟩ := h
  obtain ⟨k', hi', he⟩ := State.fieldFound?_setVm hvm h2
  exact ⟨c, k', i, f, a, cell, by rw [hvm.findClass]; exact h1, hi', h3, by rw [he]; exact h4, h5, h6, h7, h8, by rw [he]; exact h9, h10⟩
theorem vx_L.kept {C n d : String} {A : Nat → Prop} {U : State} {H H1 : Heap} (h : vx_L C n d A U H) (hq : ∀ a : Nat, a < H.size → ¬ A a → H1[a]? = H[a]?) : vx_L C n d A U H1 := by
  obtain ⟨c, k, i, f, a, cell, h1, h2, h3, h4, h5, h6, h7, h8, h9, h10⟩ := h
  exact ⟨c, k, i, f, a, cell, h1, h2, h3, h4, by rw [hq a (Array.getElem?_eq_some_iff.mp h5).1 h10]; exact h5, h6, h7, h8, h9, h10⟩
theorem vx_L.narrow {C n d : String} {A B : Nat → Prop} {U : State} {H : Heap} (h : vx_L C n d A U H) (hAB : ∀ q, B q → A q) : vx_L C n d B U H := by
  obtain ⟨c, k, i, f, a, cell, h1, h2, h3, h4, h5, h6, h7, h8, h9, h10⟩ := h
  exact ⟨c, k, i, f, a, cell, h1, h2, h3, h4, h5, h6, h7, h8, h9, fun z => h10 (hAB _ z)⟩
theorem vx_L.word {C n d : String} {A : Nat → Prop} {s : State} {args : Array Value} (h : vx_L C n d A s s.heap) : (Cond.laysStatic C n d).before args s = true := by
  obtain ⟨c, k, i, f, a, cell, h1, h2, h3, h4, h5, h6, h7, h8, h9, -⟩ := h
  show (Cond.laysStatic C n d).holds args s none s [] = true
  exact Cond.laysStatic_of h1 h2 h3 h4 h5 h6 h7 h8 h9
/-- .. and what it holds: null or some reference -/
def vx_Zq (C n d : String) (A : Nat → Prop) (U : State) (H : Heap) : Prop := va_Zq C n d A U H ∧ vx_L C n d A U H
theorem vx_Zq.moved {C n d : String} {A : Nat → Prop} {u U : State} {H : Heap} (hvm : u.vm.Alike U.vm) (h : vx_Zq C n d A u H) : vx_Zq C n d A U H := ⟨va_Zq.moved hvm h.1, vx_L.moved hvm h.2⟩
theorem vx_Zq.kept {C n d : String} {A : Nat → Prop} {U : State} {H H1 : Heap} (h : vx_Zq C n d A U H) (hq : ∀ a : Nat, a < H.size → ¬ A a → H1[a]? = H[a]?) : vx_Zq C n d A U H1 := ⟨va_Zq.kept h.1 hq, vx_L.kept h.2 hq⟩
theorem vx_Zq.narrow {C n d : String} {A B : Nat → Prop} {U : State} {H : Heap} (h : vx_Zq C n d A U H) (hAB : ∀ q, B q → A q) : vx_Zq C n d B U H := ⟨va_Zq.narrow h.1 hAB, vx_L.narrow h.2 hAB⟩
theorem vx_Zqof {args : Array Value} {s : State} {C n d : String} {A : Nat → Prop} (hl : (Cond.laysStatic C n d).before args s = true) (hini : (Cond.initialized C).before args s = true) (h : (Cond.isRef (.static C n d)).before args s = true) (hA : ∀ a : Nat, a < s.heap.size → ¬ A a) : vx_Zq C n d A s s.heap := by
  refine ⟨va_Zqof hl hini h hA, ?_⟩
  obtain ⟨c, k, i, f, a, cell, h1, h2, h3, h4, h5, h6, h7, h8, h9⟩ := Cond.laysStatic_spec hl
  exact ⟨c, k, i, f, a, cell, h1, h2, h3, h4, h5, h6, h7, h8, h9, hA a (Array.getElem?_eq_some_iff.mp h5).1⟩
theorem vx_isRef {C n d : String} {v : Value} {A : Nat → Prop} {s : State} {args : Array Value} (h : va_Z C n d v A s s.heap) (hv : v.isRef = true) : (Cond.isRef (.static C n d)).before args s = true := by
  obtain ⟨cf, kf, fi, f, a, cell, h1, h2, h3, h4, h5, h6, h7, -⟩ := h
  have he : (Term.static C n d).eval args s none [] s = some v := by
    simp [Term.eval, State.fieldNamed?, h1, h2, h4, h5, h6, h7]
  simp only [Cond.before, Cond.holds, Cond.value, he]
  cases v <;> simp_all [Value.isRef]
theorem vx_isRefq {C n d : String} {A : Nat → Prop} {s : State} {args : Array Value} (h : va_Zq C n d A s s.heap) : (Cond.isRef (.static C n d)).before args s = true := by
  rcases h with h | ⟨t, h⟩
  · exact vx_isRef h rfl
  · exact vx_isRef h rfl
/-- the same frame, seen from here: as if the method were called anew in this heap -/
theorem vx_rebase {T : State} (X : Stand p l e R s m args below meth c T locs cells slots) {R' : Room} (hf : R'.frames ≤ R.frames) (hl : R'.locals ≤ R.locals) (hc : cells + R'.cells ≤ R.cells) (hs : slots + R'.slots ≤ R.slots) :
    Stand p l e R' ((T.setVm s.vm).setFrames (.invoking m args :: below)) m args below meth c T [] 0 0 := by
  have htop : (T.setVm s.vm).topJava?.isSome := X.here.top
  have hF : ((T.setVm s.vm).setFrames (.invoking m args :: below)).frames = .invoking m args :: below := State.frames_setFrames _ (State.cur_lt_of_top htop)
  obtain ⟨g₀, hg0⟩ := Option.isSome_iff_exists.mp htop
  obtain ⟨r, hr⟩ := State.topJava?_eq_some.mp hg0
  have hl9 : e.platform.stackLimits (T.setVm s.vm).me = e.platform.stackLimits s.me := X.limits
  have hb9 : (T.setVm s.vm).me.stackBytes = s.me.stackBytes := X.bytes
  refine ⟨X.admits, X.cas, X.clock, hF, ?_, X.hears, X.method, X.code, X.here, X.tail, X.warmed, ?_, ?_, ?_⟩
  · have h := X.room
    have hU : ((T.setVm s.vm).setFrames (.invoking m args :: below)).localsInUse = s.localsInUse := by
      rw [State.localsInUse_invoking hF (meth := meth) (c := c) X.method X.code, State.localsInUse_invoking X.frames X.method X.code]
    simp only [State.hasRoom, Bool.and_eq_true, decide_eq_true_eq] at h ⊢
    obtain ⟨⟨⟨⟨h1, h2, h3, h4, h5, h6⟩, h7⟩, h8⟩, h9⟩ := h
    rw [X.frames, List.length_cons] at h2 h3
    have q1 := X.heapSize
    have q2 := X.used
    simp only [hF, hU, List.length_cons, State.stackLimits_setFrames, State.stackBytes_setFrames, hl9, hb9]
    refine ⟨⟨⟨⟨by omega, by omega, by omega, by omega, by omega, h6⟩, ?_⟩, ?_⟩, X.book⟩
    · show T.heap.size + R'.cells ≤ e.platform.maxCells
      omega
    · show T.slotsUsed + R'.slots ≤ e.platform.maxSlots
      omega
  · rw [State.stackLimits_setFrames]; rfl
  · rw [State.stackBytes_setFrames]; rfl
  · refine ⟨?_, Nat.le_refl _, Nat.le_refl _, ?_, ?_, fun a c9 h9 => ⟨c9, h9, rfl, rfl, fun _ _ => rfl⟩⟩
    · obtain ⟨t, ht, -⟩ := State.frames_cons hr
      show T.setVm s.vm = { ((T.setVm s.vm).setFrames (.invoking m args :: below)).setFrames (T.setVm s.vm).frames with heap := T.heap, slotsUsed := T.slotsUsed }
      rw [State.setFrames_setFrames, State.setFrames_self ht]
      rfl
    · show T.slotsUsed = T.slotsUsed + ((T.heap.toList.drop T.heap.size).map (·.slots.size)).sum
      rw [List.drop_eq_nil_of_le (Nat.le_of_eq Array.length_toList)]
      rfl
    · show ((T.heap.toList.drop T.heap.size).map (·.slots.size)).sum ≤ 0
      rw [List.drop_eq_nil_of_le (Nat.le_of_eq Array.length_toList)]
      exact Nat.le_refl _
/-- 'throw new E()': new; dup; invokespecial; athrow -/
theorem vx_throw0 {cc : ByteArray} {pc : Nat} (hexec : p.tables.exec = Jvm.exec) (hb : c.code = cc) (hl : l.stackTraces = false) {own cls : String} {names : List String} {ik ic mc ms : Nat} {A : Nat → Prop}
    (hown : s.vm.findClass own = some m.cls) (hcls : Bundle.fit cls = true) (hnames : ∀ n ∈ names, Bundle.fit n = true)
    (hk : (Cond.classLink own ik cls).before args s = true) (hini : (Cond.initialized cls).before args s = true) (hat : ∀ w ∈ vx_at0 own ic cls names, w.before args s = true)
    (hgood : ∀ w ∈ Cond.classLink own ik cls :: Cond.initialized cls :: vx_at0 own ic cls names, vx_ot w = true)
    (hU : vx_Zq Bundle.tN "UNASSIGNED_STACK" Bundle.steD A s s.heap) (hN : vx_Zq Bundle.tN "SUPPRESSED_SENTINEL" Bundle.listD A s s.heap) (hS : va_S A s.heap H locs) (hsize : ls.size = c.maxLocals)
    (d0 : decode cc pc = .ok (.new ik, 3)) (d3 : decode cc (pc + 3) = .ok (.dup, 1)) (d4 : decode cc (pc + 4) = .ok (.invokespecial ic, 3)) (d7 : decode cc (pc + 7) = .ok (.athrow, 1))
    (hout : ∀ x ∈ c.exceptionTable.toList, covers x (pc + 7) = false)
    (hRframes : names.length + 3 < R.frames) (hRlocals : (rest.map fun v => v.category).sum + (13 * (names.length + 1) + 42) ≤ R.locals) (hRcells : cells + 1 ≤ R.cells) (hRslots : slots + 6 ≤ R.slots) (hlocks : meth.locks = false)
    (hx : ∀ t : State, s.vm.Alike t.vm → H.size ≤ t.heap.size → (∀ q : Nat, q < H.size → t.heap[q]? = H[q]?) → XC cls s t)
    (hf : ∀ z ∈ locs, free z.base) (hc : cells + 1 ≤ mc) (hs : slots + 6 ≤ ms) :
    W p l e R s m args below meth c H locs cells slots (vx_MQ below Qc XC args s mc ms free) (F0 m pc ls rest) := by
  intro T hT X
  have htr : e.platform.stackTraces = false := (show e.platform.stackTraces = l.stackTraces by rw [X.admits.platform]).trans hl
  have Y := vx_rebase X (R' := { frames := R.frames, locals := R.locals, cells := 1, slots := 6 }) (Nat.le_refl _) (Nat.le_refl _) hRcells hRslots
  obtain ⟨s', hA⟩ : ∃ z, z = (T.setVm s.vm).setFrames (.invoking m args :: below) := ⟨_, rfl⟩
  rw [← hA] at Y
  have hvm : s'.vm = s.vm := by rw [hA]; rfl
  have hhp : s'.heap = H := by rw [hA]; exact hT
  have hW0 : s.WarmedH s'.vm := by rw [hvm]; exact State.WarmedH.refl s
  have hat' : ∀ w ∈ vx_at0 own ic cls names, w.before args s' = true := fun w hw => vx_ot_at hW0 hvm.symm (hgood w (List.mem_cons_of_mem _ (List.mem_cons_of_mem _ hw))) (hat w hw)
  have hk' : (Cond.classLink own ik cls).before args s' = true := vx_ot_at hW0 hvm.symm (hgood _ List.mem_cons_self) hk
  have hini' : (Cond.initialized cls).before args s' = true := vx_ot_at hW0 hvm.symm (hgood _ (List.mem_cons_of_mem _ List.mem_cons_self)) hini
  have hU' : vx_Zq Bundle.tN "UNASSIGNED_STACK" Bundle.steD A s' s'.heap := by rw [hhp]; exact vx_Zq.moved hW0.alike (hU.kept hS.2.1)
  have hN' : vx_Zq Bundle.tN "SUPPRESSED_SENTINEL" Bundle.listD A s' s'.heap := by rw [hhp]; exact vx_Zq.moved hW0.alike (hN.kept hS.2.1)
  have h : ∀ w ∈ Bundle.ownAtoms0 own ic cls names, w.before args s' = true := vx_own hat' (vx_isRefq hU'.1) (vx_isRefq hN'.1) hU'.2.word hN'.2.word
  have hown' : s'.vm.findClass own = some m.cls := by rw [hvm]; exact hown
  have hins : (Cond.instantiable cls 6).before args s' = true := h _ (by simp [Bundle.ownAtoms0])
  obtain ⟨vm₁, cX, kX, hfX, hkX, -, -, X₁, st1⟩ := Y.newCold hexec (own := own) (C := cls) (index := ik) (n := 6) hown' hk' hins hini'
    (g := F0 m pc ls rest) rfl (by rw [hb]; exact d0) (Nat.le_refl _) (Nat.le_refl _)
  generalize hT1 : (T.setVm vm₁).pushCell { cls := cX, slots := kX.instanceTypes.map defaultValue, vm := .none } = T1 at X₁ st1
  have hcat : (Value.ref T.heap.size).category = 1 := rfl
  have hcellA : T1.heap[T.heap.size]? = some (freshCell cX kX) := by rw [← hT1]; exact State.heap_pushCell_size _ _
  have d3' : decode c.code (pc + 3) = .ok (.dup, 1) := by rw [hb]; exact d3
  obtain ⟨U, hsteps, hrun, hend, hW, hsame, ce, hce, hO⟩ := X₁.ctorThrow0 hexec htr (own := own) (cls := cls) (names := names) (ic := ic) hown' hcls hnames h (fun x hx => nomatch hx) hfX hkX hcellA (by rw [hhp, hT]; exact Nat.le_refl _)
    (g := { method := m, pc := pc + 4, locals := ls, stack := .ref T.heap.size :: .ref T.heap.size :: rest, locked := none }) rfl hsize rfl rfl (rest := rest) rfl
    (by rw [hb]; exact d4) (by rw [hb]; exact d7) hout hRframes (by simp only [List.map_cons, List.sum_cons, hcat]; omega) hlocks
  obtain ⟨f1, f2⟩ := vx_frame hsame
  rw [hhp] at f1 f2
  have hWs : s.WarmedH U.vm := State.WarmedH.trans hW0 hW
  have hcl : s.vm.findClass cls = some ce.cls := by
    have h9 := hO.cls
    rw [hvm] at h9
    exact h9
  have hall : s.sameButNew ({ U with vm := s.vm } : State) locs mc ms := by
    subst hA
    obtain ⟨e1, e2⟩ := hsame
    rw [State.setFrames_setFrames] at e1
    have h2 : (T.setVm s.vm).sameButNew ({ U with vm := s.vm } : State) [] (0 + 1) (0 + 6) := ⟨e1, e2⟩
    have h3 := X.same.trans h2
    rw [List.append_nil] at h3
    exact h3.mono hc hs
  refine ⟨U, ?_, .threw T.heap.size, hrun, hend, Or.inr ⟨T.heap.size, rfl, cls, ce, locs, hx U hWs.alike f1 (fun q hq => f2 q hq (fun z hz => nomatch hz)), hce, hO.vm, hcl, hWs, hall, hf⟩⟩
  refine st1 _ ?_
  show Steps p.tables e below (T1.setTop { method := m, pc := pc + 3, locals := ls, stack := .ref T.heap.size :: rest, locked := none }) _
  jvm_step X₁.here [X₁.here.top, hexec, d3', Value.category]
  exact hsteps
/-- 'throw new E("text")': new; dup; ldc; invokespecial; athrow -/
theorem vx_throwS {cc : ByteArray} {pc : Nat} (hexec : p.tables.exec = Jvm.exec) (hb : c.code = cc) (hl : l.stackTraces = false) {own cls text : String} {names : List String} {ik is ic mc ms sa : Nat} {A : Nat → Prop}
    (hown : s.vm.findClass own = some m.cls) (hcls : Bundle.fit cls = true) (hnames : ∀ n ∈ names, Bundle.fit n = true)
    (hk : (Cond.classLink own ik cls).before args s = true) (hini : (Cond.initialized cls).before args s = true) (hstr : vk_R own is text sa s) (hat : ∀ w ∈ vx_atS own ic cls names, w.before args s = true)
    (hgood : ∀ w ∈ Cond.classLink own ik cls :: Cond.initialized cls :: vx_atS own ic cls names, vx_ot w = true)
    (hU : vx_Zq Bundle.tN "UNASSIGNED_STACK" Bundle.steD A s s.heap) (hN : vx_Zq Bundle.tN "SUPPRESSED_SENTINEL" Bundle.listD A s s.heap) (hS : va_S A s.heap H locs) (hsize : ls.size = c.maxLocals)
    (d0 : decode cc pc = .ok (.new ik, 3)) (d3 : decode cc (pc + 3) = .ok (.dup, 1)) (d4 : decode cc (pc + 4) = .ok (.ldc is, 2)) (d6 : decode cc (pc + 6) = .ok (.invokespecial ic, 3)) (d9 : decode cc (pc + 9) = .ok (.athrow, 1))
    (hout : ∀ x ∈ c.exceptionTable.toList, covers x (pc + 9) = false)
    (hRframes : names.length + 3 < R.frames) (hRlocals : (rest.map fun v => v.category).sum + (13 * (names.length + 1) + 43) ≤ R.locals) (hRcells : cells + 1 ≤ R.cells) (hRslots : slots + 6 ≤ R.slots) (hlocks : meth.locks = false)
    (hx : ∀ t : State, s.vm.Alike t.vm → H.size ≤ t.heap.size → (∀ q : Nat, q < H.size → t.heap[q]? = H[q]?) → XC cls s t)
    (hf : ∀ z ∈ locs, free z.base) (hc : cells + 1 ≤ mc) (hs : slots + 6 ≤ ms) :
    W p l e R s m args below meth c H locs cells slots (vx_MQ below Qc XC args s mc ms free) (F0 m pc ls rest) := by
  intro T hT X
  have htr : e.platform.stackTraces = false := (show e.platform.stackTraces = l.stackTraces by rw [X.admits.platform]).trans hl
  have Y := vx_rebase X (R' := { frames := R.frames, locals := R.locals, cells := 1, slots := 6 }) (Nat.le_refl _) (Nat.le_refl _) hRcells hRslots
  obtain ⟨s', hA⟩ : ∃ z, z = (T.setVm s.vm).setFrames (.invoking m args :: below) := ⟨_, rfl⟩
  rw [← hA] at Y
  have hvm : s'.vm = s.vm := by rw [hA]; rfl
  have hhp : s'.heap = H := by rw [hA]; exact hT
  have hW0 : s.WarmedH s'.vm := by rw [hvm]; exact State.WarmedH.refl s
  have hat' : ∀ w ∈ vx_atS own ic cls names, w.before args s' = true := fun w hw => vx_ot_at hW0 hvm.symm (hgood w (List.mem_cons_of_mem _ (List.mem_cons_of_mem _ hw))) (hat w hw)
  have hk' : (Cond.classLink own ik cls).before args s' = true := vx_ot_at hW0 hvm.symm (hgood _ List.mem_cons_self) hk
  have hini' : (Cond.initialized cls).before args s' = true := vx_ot_at hW0 hvm.symm (hgood _ (List.mem_cons_of_mem _ List.mem_cons_self)) hini
  have hU' : vx_Zq Bundle.tN "UNASSIGNED_STACK" Bundle.steD A s' s'.heap := by rw [hhp]; exact vx_Zq.moved hW0.alike (hU.kept hS.2.1)
  have hN' : vx_Zq Bundle.tN "SUPPRESSED_SENTINEL" Bundle.listD A s' s'.heap := by rw [hhp]; exact vx_Zq.moved hW0.alike (hN.kept hS.2.1)
  have h : ∀ w ∈ Bundle.ownAtoms own ic cls names, w.before args s' = true := vx_own hat' (vx_isRefq hU'.1) (vx_isRefq hN'.1) hU'.2.word hN'.2.word
  have hown' : s'.vm.findClass own = some m.cls := by rw [hvm]; exact hown
  have hins : (Cond.instantiable cls 6).before args s' = true := h _ (by simp [Bundle.ownAtoms])
  obtain ⟨vm₁, cX, kX, hfX, hkX, -, -, X₁, st1⟩ := Y.newCold hexec (own := own) (C := cls) (index := ik) (n := 6) hown' hk' hins hini'
    (g := F0 m pc ls rest) rfl (by rw [hb]; exact d0) (Nat.le_refl _) (Nat.le_refl _)
  generalize hT1 : (T.setVm vm₁).pushCell { cls := cX, slots := kX.instanceTypes.map defaultValue, vm := .none } = T1 at X₁ st1
  have hcat : (Value.ref T.heap.size).category = 1 := rfl
  have hcellA : T1.heap[T.heap.size]? = some (freshCell cX kX) := by rw [← hT1]; exact State.heap_pushCell_size _ _
  have d3' : decode c.code (pc + 3) = .ok (.dup, 1) := by rw [hb]; exact d3
  have d4' : decode c.code (pc + 4) = .ok (.ldc is, 2) := by rw [hb]; exact d4
  have hstr' : vk_R own is text sa s' := vk_R.warm hW0 hstr
  obtain ⟨U, hsteps, hrun, hend, hW, hsame, ce, hce, hO⟩ := X₁.ctorThrowS hexec htr (own := own) (cls := cls) (names := names) (ic := ic) hown' hcls hnames h (fun x hx => nomatch hx) hfX hkX hcellA (by rw [hhp, hT]; exact Nat.le_refl _) (msg := .ref sa) rfl
    (g := { method := m, pc := pc + 6, locals := ls, stack := .ref sa :: .ref T.heap.size :: .ref T.heap.size :: rest, locked := none }) rfl hsize rfl rfl (rest := rest) rfl
    (by rw [hb]; exact d6) (by rw [hb]; exact d9) hout hRframes (by simp only [List.map_cons, List.sum_cons, hcat]; omega) hlocks
  obtain ⟨f1, f2⟩ := vx_frame hsame
  rw [hhp] at f1 f2
  have hWs : s.WarmedH U.vm := State.WarmedH.trans hW0 hW
  have hcl : s.vm.findClass cls = some ce.cls := by
    have h9 := hO.cls
    rw [hvm] at h9
    exact h9
  have hall : s.sameButNew ({ U with vm := s.vm } : State) locs mc ms := by
    subst hA
    obtain ⟨e1, e2⟩ := hsame
    rw [State.setFrames_setFrames] at e1
    have h2 : (T.setVm s.vm).sameButNew ({ U with vm := s.vm } : State) [] (0 + 1) (0 + 6) := ⟨e1, e2⟩
    have h3 := X.same.trans h2
    rw [List.append_nil] at h3
    exact h3.mono hc hs
  refine ⟨U, ?_, .threw T.heap.size, hrun, hend, Or.inr ⟨T.heap.size, rfl, cls, ce, locs, hx U hWs.alike f1 (fun q hq => f2 q hq (fun z hz => nomatch hz)), hce, hO.vm, hcl, hWs, hall, hf⟩⟩
  refine st1 _ ?_
  show Steps p.tables e below (T1.setTop { method := m, pc := pc + 3, locals := ls, stack := .ref T.heap.size :: rest, locked := none }) _
  jvm_step X₁.here [X₁.here.top, hexec, d3', Value.category]
  exact X₁.ldcString hexec (own := own) (text := text) (index := is) (a := sa) hown' hstr'.1 hstr'.2
    (g := { method := m, pc := pc + 4, locals := ls, stack := .ref T.heap.size :: .ref T.heap.size :: rest, locked := none }) rfl d4' _ hsteps
/-- 'throw new E("text")', the text by a wide index -/
theorem vx_throwSW {cc : ByteArray} {pc : Nat} (hexec : p.tables.exec = Jvm.exec) (hb : c.code = cc) (hl : l.stackTraces = false) {own cls text : String} {names : List String} {ik is ic mc ms sa : Nat} {A : Nat → Prop}
    (hown : s.vm.findClass own = some m.cls) (hcls : Bundle.fit cls = true) (hnames : ∀ n ∈ names, Bundle.fit n = true)
    (hk : (Cond.classLink own ik cls).before args s = true) (hini : (Cond.initialized cls).before args s = true) (hstr : vk_R own is text sa s) (hat : ∀ w ∈ vx_atS own ic cls names, w.before args s = true)
    (hgood : ∀ w ∈ Cond.classLink own ik cls :: Cond.initialized cls :: vx_atS own ic cls names, vx_ot w = true)
    (hU : vx_Zq Bundle.tN "UNASSIGNED_STACK" Bundle.steD A s s.heap) (hN : vx_Zq Bundle.tN "SUPPRESSED_SENTINEL" Bundle.listD A s s.heap) (hS : va_S A s.heap H locs) (hsize : ls.size = c.maxLocals)
    (d0 : decode cc pc = .ok (.new ik, 3)) (d3 : decode cc (pc + 3) = .ok (.dup, 1)) (d4 : decode cc (pc + 4) = .ok (.ldc_w is, 3)) (d7 : decode cc (pc + 7) = .ok (.invokespecial ic, 3)) (d10 : decode cc (pc + 10) = .ok (.athrow, 1))
    (hout : ∀ x ∈ c.exceptionTable.toList, covers x (pc + 10) = false)
    (hRframes : names.length + 3 < R.frames) (hRlocals : (rest.map fun v => v.category).sum + (13 * (names.length + 1) + 43) ≤ R.locals) (hRcells : cells + 1 ≤ R.cells) (hRslots : slots + 6 ≤ R.slots) (hlocks : meth.locks = false)
    (hx : ∀ t : State, s.vm.Alike t.vm → H.size ≤ t.heap.size → (∀ q : Nat, q < H.size → t.heap[q]? = H[q]?) → XC cls s t)
    (hf : ∀ z ∈ locs, free z.base) (hc : cells + 1 ≤ mc) (hs : slots + 6 ≤ ms) :
    W p l e R s m args below meth c H locs cells slots (vx_MQ below Qc XC args s mc ms free) (F0 m pc ls rest) := by
  intro T hT X
  have htr : e.platform.stackTraces = false := (show e.platform.stackTraces = l.stackTraces by rw [X.admits.platform]).trans hl
  have Y := vx_rebase X (R' := { frames := R.frames, locals := R.locals, cells := 1, slots := 6 }) (Nat.le_refl _) (Nat.le_refl _) hRcells hRslots
  obtain ⟨s', hA⟩ : ∃ z, z = (T.setVm s.vm).setFrames (.invoking m args :: below) := ⟨_, rfl⟩
  rw [← hA] at Y
  have hvm : s'.vm = s.vm := by rw [hA]; rfl
  have hhp : s'.heap = H := by rw [hA]; exact hT
  have hW0 : s.WarmedH s'.vm := by rw [hvm]; exact State.WarmedH.refl s
  have hat' : ∀ w ∈ vx_atS own ic cls names, w.before args s' = true := fun w hw => vx_ot_at hW0 hvm.symm (hgood w (List.mem_cons_of_mem _ (List.mem_cons_of_mem _ hw))) (hat w hw)
  have hk' : (Cond.classLink own ik cls).before args s' = true := vx_ot_at hW0 hvm.symm (hgood _ List.mem_cons_self) hk
  have hini' : (Cond.initialized cls).before args s' = true := vx_ot_at hW0 hvm.symm (hgood _ (List.mem_cons_of_mem _ List.mem_cons_self)) hini
  have hU' : vx_Zq Bundle.tN "UNASSIGNED_STACK" Bundle.steD A s' s'.heap := by rw [hhp]; exact vx_Zq.moved hW0.alike (hU.kept hS.2.1)
  have hN' : vx_Zq Bundle.tN "SUPPRESSED_SENTINEL" Bundle.listD A s' s'.heap := by rw [hhp]; exact vx_Zq.moved hW0.alike (hN.kept hS.2.1)
  have h : ∀ w ∈ Bundle.ownAtoms own ic cls names, w.before args s' = true := vx_own hat' (vx_isRefq hU'.1) (vx_isRefq hN'.1) hU'.2.word hN'.2.word
  have hown' : s'.vm.findClass own = some m.cls := by rw [hvm]; exact hown
  have hins : (Cond.instantiable cls 6).before args s' = true := h _ (by simp [Bundle.ownAtoms])
  obtain ⟨vm₁, cX, kX, hfX, hkX, -, -, X₁, st1⟩ := Y.newCold hexec (own := own) (C := cls) (index := ik) (n := 6) hown' hk' hins hini'
    (g := F0 m pc ls rest) rfl (by rw [hb]; exact d0) (Nat.le_refl _) (Nat.le_refl _)
  generalize hT1 : (T.setVm vm₁).pushCell { cls := cX, slots := kX.instanceTypes.map defaultValue, vm := .none } = T1 at X₁ st1
  have hcat : (Value.ref T.heap.size).category = 1 := rfl
  have hcellA : T1.heap[T.heap.size]? = some (freshCell cX kX) := by rw [← hT1]; exact State.heap_pushCell_size _ _
  have d3' : decode c.code (pc + 3) = .ok (.dup, 1) := by rw [hb]; exact d3
  have d4' : decode c.code (pc + 4) = .ok (.ldc_w is, 3) := by rw [hb]; exact d4
  have hstr' : vk_R own is text sa s' := vk_R.warm hW0 hstr
  obtain ⟨U, hsteps, hrun, hend, hW, hsame, ce, hce, hO⟩ := X₁.ctorThrowS hexec htr (own := own) (cls := cls) (names := names) (ic := ic) hown' hcls hnames h (fun x hx => nomatch hx) hfX hkX hcellA (by rw [hhp, hT]; exact Nat.le_refl _) (msg := .ref sa) rfl
    (g := { method := m, pc := pc + 7, locals := ls, stack := .ref sa :: .ref T.heap.size :: .ref T.heap.size :: rest, locked := none }) rfl hsize rfl rfl (rest := rest) rfl
    (by rw [hb]; exact d7) (by rw [hb]; exact d10) hout hRframes (by simp only [List.map_cons, List.sum_cons, hcat]; omega) hlocks
  obtain ⟨f1, f2⟩ := vx_frame hsame
  rw [hhp] at f1 f2
  have hWs : s.WarmedH U.vm := State.WarmedH.trans hW0 hW
  have hcl : s.vm.findClass cls = some ce.cls := by
    have h9 := hO.cls
    rw [hvm] at h9
    exact h9
  have hall : s.sameButNew ({ U with vm := s.vm } : State) locs mc ms := by
    subst hA
    obtain ⟨e1, e2⟩ := hsame
    rw [State.setFrames_setFrames] at e1
    have h2 : (T.setVm s.vm).sameButNew ({ U with vm := s.vm } : State) [] (0 + 1) (0 + 6) := ⟨e1, e2⟩
    have h3 := X.same.trans h2
    rw [List.append_nil] at h3
    exact h3.mono hc hs
  refine ⟨U, ?_, .threw T.heap.size, hrun, hend, Or.inr ⟨T.heap.size, rfl, cls, ce, locs, hx U hWs.alike f1 (fun q hq => f2 q hq (fun z hz => nomatch hz)), hce, hO.vm, hcl, hWs, hall, hf⟩⟩
  refine st1 _ ?_
  show Steps p.tables e below (T1.setTop { method := m, pc := pc + 3, locals := ls, stack := .ref T.heap.size :: rest, locked := none }) _
  jvm_step X₁.here [X₁.here.top, hexec, d3', Value.category]
  exact X₁.ldcStringW hexec (own := own) (text := text) (index := is) (a := sa) hown' hstr'.1 hstr'.2
    (g := { method := m, pc := pc + 4, locals := ls, stack := .ref T.heap.size :: .ref T.heap.size :: rest, locked := none }) rfl d4' _ hsteps
end Ends
section Bodies
variable {l : Launch}
theorem vx_ofW {y : MethodName} {ws ws' : List Cond} {rm : Room} {Pc : Array Value → State → Prop} {Qc : Array Value → State → Outcome → State → Prop} {XC : String → State → State → Prop} {mc ms : Nat} {free : Addr → Prop} {cc : ByteArray} {maxL : Nat} {ret : Option FieldType}
    (hy : plainName y.cls = true) (hw : ws = Cond.code y cc maxL ret :: ws')
    (body : ∀ p e s m args below meth c s₁, BodyLoose p l y (headSpec ws rm) cc maxL ret e s m args below meth c s₁ → c.maxLocals = maxL → (∀ x ∈ c.exceptionTable.toList, False) → Pc args s →
      W p l e (headSpec ws rm).room s m args below meth c s.heap [] 0 0 (vx_MQ below Qc XC args s mc ms free) (entryFrame m args maxL)) : vx_Met l y ws rm Pc Qc XC mc ms free := by
  refine MetFree.of_bodyS (code := cc) (maxLocals := maxL) (ret := ret) hy ?_ ?_
  · intro args s m h hn
    obtain ⟨meth, c, h1, h2, h3, h4, h5, h6, -, -⟩ := Cond.code_spec hn (atoms_spec (ws := ws) h _ (by rw [hw]; exact List.mem_cons_self))
    exact ⟨meth, c, h1, h2, h3, h4, h5, h6⟩
  · intro p e s m args below meth c s₁ B hml hP _
    have hh0 : s₁.heap = s.heap := by rw [B.state]; rfl
    have ht : ∀ x ∈ c.exceptionTable.toList, False := by
      obtain ⟨meth9, c9, h1, h2, -, -, -, -, h7, -⟩ := Cond.code_spec B.named (atoms_spec (ws := ws) B.pre _ (by rw [hw]; exact List.mem_cons_self))
      cases Option.some.inj (h1.symm.trans B.method)
      cases Option.some.inj (h2.symm.trans (Stand.of_body B).code)
      intro x hx
      rw [Array.isEmpty_iff.mp h7] at hx
      cases hx
    obtain ⟨t, a1, o, b1, b2, b3⟩ := body p e s m args below meth c s₁ B hml ht hP s₁ hh0 (Stand.of_body B)
    exact ⟨t, o, a1, b1, b2, b3⟩
/-- the table of a body with handlers -/
theorem vx_table {p : Program} {x y : MethodName} {S : Spec} {cc bytes : ByteArray} {maxL maxL' : Nat} {ret ret' : Option FieldType} {e : Env} {s s₁ : State} {m : MethodId} {args : Array Value} {below : List Frame} {meth : Method} {c : Code} {hh : List (Nat × Nat × Nat × Nat)}
    (B : BodyLoose p l y S cc maxL ret e s m args below meth c s₁) (h : (Cond.codeWith y bytes maxL' ret' hh).before args s = true) : c.exceptionTable.toList = tableOf hh := by
  obtain ⟨m9, meth9, c9, hn9, h1, h2, -, -, h6, -⟩ := Cond.codeWith_spec h
  cases Option.some.inj (hn9.symm.trans B.named)
  cases Option.some.inj (h1.symm.trans B.method)
  cases Option.some.inj (h2.symm.trans (Stand.of_body B).code)
  rw [← h6, table_eq]
end Bodies
end VXA
/-! ===== END ===== -/
/-! ===== BEGIN a static call of a method with an exception table ===== -/
section VXS
variable {p : Program} {l : Launch} {e : Env} {R : Room} {s : State} {m : MethodId} {args : Array Value} {below : List Frame} {meth : Method} {c : Code} {T : State} {H : Heap} {locs : List Loc} {cells slots : Nat}
abbrev vx_CSW (R : Room) (s : State) (args : Array Value) (own : String) (index : Nat) (y : MethodName) (bytes : ByteArray) (maxL : Nat) (ret : Option FieldType) (hh : List (Nat × Nat × Nat × Nat)) (ws : List Cond) (rm : Room) (mc ms n : Nat) : Prop :=
  (rm.cells = mc ∧ rm.slots = ms ∧ rm.frames + 1 ≤ R.frames ∧ 8 + (maxL + 11) + rm.locals ≤ R.locals ∧ (∀ w ∈ ws, ∀ (a' : Array Value) (U : State), s.WarmedH U.vm → w.before a' U = true) ∧ Cond.codeWith y bytes maxL ret hh ∈ ws) ∧
  (Cond.codeWith y bytes maxL ret hh).before args s = true ∧ (Cond.initialized y.cls).before args s = true ∧ (y.cls ≠ "java/lang/invoke/MethodHandle" ∧ y.cls ≠ "java/lang/invoke/VarHandle") ∧
  (∀ sig, parseMethodDescriptor y.desc = some sig → n = sig.parameters.length) ∧ (Cond.methodLink own index y).before args s = true ∧ (Cond.static y).before args s = true
theorem vx_cwSW {own : String} {index maxL mc ms : Nat} {y : MethodName} {bytes : ByteArray} {ret : Option FieldType} {hh : List (Nat × Nat × Nat × Nat)} {Ts ws ws' : List Cond} {rm : Room} (n : Nat) (ht : ∀ w ∈ Ts, w.before args s = true) (hT : GoodIn Ts (va_wsS own index y ws)) (hw : ws = Cond.codeWith y bytes maxL ret hh :: ws') (hrc : rm.cells = mc) (hrs : rm.slots = ms)
    (hd : y.cls ≠ "java/lang/invoke/MethodHandle" ∧ y.cls ≠ "java/lang/invoke/VarHandle" ∧ (parseMethodDescriptor y.desc).map (fun d => d.parameters.length) = some n) (hR : rm.frames + 1 ≤ R.frames ∧ 8 + (maxL + 11) + rm.locals ≤ R.locals) :
    vx_CSW R s args own index y bytes maxL ret hh ws rm mc ms n := by
  have ok : ∀ w ∈ va_wsS own index y ws, w.before args s = true := fun w h => ht w (hT w h).1
  have hG : GoodIn Ts ws := fun w h => hT w (by unfold va_wsS; exact List.mem_append_right _ h)
  have hc : Cond.codeWith y bytes maxL ret hh ∈ ws := by rw [hw]; exact List.mem_cons_self
  refine ⟨⟨hrc, hrs, hR.1, hR.2, pay_in ht hG, hc⟩, ht _ (hG _ hc).1, ok _ (by simp [va_wsS]), ⟨hd.1, hd.2.1⟩, fun sig h => ?_, ok _ (by simp [va_wsS]), ok _ (by simp [va_wsS])⟩
  have h2 := hd.2.2
  rw [h] at h2
  exact (Option.some.inj h2).symm
theorem vx_callSW (X : Stand p l e R s m args below meth c T locs cells slots) (hexec : p.tables.exec = Jvm.exec) {own : String} {index : Nat} {y : MethodName} {bytes : ByteArray} {maxL : Nat} {ret : Option FieldType} {hh : List (Nat × Nat × Nat × Nat)}
    (hown : s.vm.findClass own = some m.cls) (hlink : (Cond.methodLink own index y).before args s = true) (hstat : (Cond.static y).before args s = true) (hinit : (Cond.initialized y.cls).before args s = true)
    (hcode : (Cond.codeWith y bytes maxL ret hh).before args s = true) (hy : y.cls ≠ "java/lang/invoke/MethodHandle" ∧ y.cls ≠ "java/lang/invoke/VarHandle")
    {W9 : Nat} {Pre : Pt → Array Value → Prop} {Post : Pt → Array Value → Option Value → Pt → Prop} (hK : Back l R p e below s args y 3 W9 Pre Post)
    {g : JFrame} (hg : g.method = m) (hsize : g.locals.size = c.maxLocals) {argsL rest : List Value} (hlen : ∀ sig, parseMethodDescriptor y.desc = some sig → argsL.length = sig.parameters.length)
    (hstack : g.stack = argsL.reverse ++ rest) (hW : 2 * g.monitorRoom + (rest.map fun v => v.category).sum ≤ W9) (hdg : decode c.code g.pc = .ok (.invokestatic index, 3))
    (hpre : ∀ vm₁, s.WarmedH vm₁ → Pre ⟨T.setVm vm₁, locs, cells, slots⟩ argsL.toArray) :
    ∃ (v : Option Value) (vm₁ : Vm) (B : Pt), s.WarmedH vm₁ ∧ Stand p l e R s m args below meth c B.U B.locs B.cells B.slots ∧ Post ⟨T.setVm vm₁, locs, cells, slots⟩ argsL.toArray v B ∧
      ∀ target, Steps p.tables e below (B.U.setTop { g with pc := g.pc + 3, stack := v.toList ++ rest }) target → Steps p.tables e below (T.setTop g) target := by
  obtain ⟨mk, methM, cM, hnamed, hmethM, -, -, -, -, -, -, hsigM⟩ := Cond.codeWith_spec hcode
  have hstatic : methM.isStatic = true := Cond.static_spec hnamed hmethM hstat
  obtain ⟨kP, hkP, -⟩ := className_of_methodNamed hnamed
  have hinitP : kP.init = .initialized := Cond.initialized_spec (findClass_of_methodNamed hnamed) hkP hinit
  obtain ⟨vm₁, X₁, hstep₁⟩ := X.invokestatic hexec hown hlink hnamed hmethM hstatic hkP hinitP hy (g := g) hg (argsL := argsL) (rest := rest) (hlen _ hsigM) hstack hdg
  obtain ⟨v, B, X', hpost, hsteps⟩ := hK m meth c ⟨T.setVm vm₁, locs, cells, slots⟩ { g with stack := rest } (.invokestatic index) mk argsL.toArray X₁ hg hsize hdg hW (X₁.named hnamed) (hpre vm₁ X₁.warmed)
  exact ⟨v, vm₁, B, X₁.warmed, X', hpost, fun target h => hstep₁ _ fun acts => by rw [doInvoke_state]; exact hsteps.trans h⟩
theorem vx_runSW {y : MethodName} {bytes cc : ByteArray} {maxL nL mc ms n index : Nat} {ret : Option FieldType} {hh : List (Nat × Nat × Nat × Nat)} {ws : List Cond} {rm : Room} {Pc : Array Value → State → Prop} {Qc : Array Value → State → Outcome → State → Prop} {free : Addr → Prop} {Ts : List Cond} {own : String} {As rest : List Value} {g : JFrame}
    (S : CallFix p m c cc nL s args Ts own) (hM : Met l y ws rm Pc Qc mc ms free) (cw : vx_CSW R s args own index y bytes maxL ret hh ws rm mc ms n) (hp : PreS s H Pc As)
    (hg : g.method = m) (hn : As.length = n) (hsize : g.locals.size = nL) (hstack : g.stack = As.reverse ++ rest) (hW : 2 * g.monitorRoom + (rest.map fun v => v.category).sum ≤ 8) (hdg : decode cc g.pc = .ok (.invokestatic index, 3)) (hf : cells + mc ≤ R.cells ∧ slots + ms ≤ R.slots) :
    va_Run p l e R s m args below meth c H locs cells slots mc ms g rest (Qc As.toArray) (free) := by
  obtain ⟨⟨hrc, hrs, hfr, hlo, hws, hcw⟩, hcode, hini, hy, hlen, hl, hstt⟩ := cw
  have hK : Back l R p e below s args y 3 8 (PreOf R mc ms Pc) (PostOf Qc mc ms free) := va_backW (hh := hh) (bytes := bytes) (maxL := maxL) (ret := ret) hM hp.1 hrc hrs hfr hlo hws hcw (fun a' U hW => word_at hW (Or.inl (by first | rfl | simp [Cond.onTables, Cond.keeps, Cond.steady])) hini)
  obtain ⟨hx, hb, hml, ho, -⟩ := S
  intro T hT X
  obtain ⟨v, vm₁, ⟨U', l2, c2, s2⟩, hW₁, X', ⟨g', mk, t, L, e1, e2, hq, h1, hL, h2, h3⟩, st⟩ := vx_callSW X hx (hh := hh) (bytes := bytes) (maxL := maxL) (ret := ret) ho hl hstt hini hcode hy hK hg (hsize.trans hml.symm) (argsL := As) (rest := rest) (fun sig h => hn.trans (hlen sig h)) hstack hW (by rw [hb]; exact hdg)
    (fun vm₁ hW₁ => ⟨hf.1, hf.2, hp.2 (T.setVm vm₁) hT hW₁⟩)
  dsimp only [Pt.U, Pt.locs, Pt.cells, Pt.slots] at X' e1 e2 h1 h2 h3 st
  subst h1; subst h2; subst h3
  exact ⟨v, (T.setVm vm₁).calling g' mk As.toArray, t, U', L, hT, X', hL, e1, e2, hq, st⟩
/-- not caught here, past rows that name other classes: it goes on to the caller -/
theorem vx_outP {p : Program} {l : Launch} {e : Env} {R : Room} {s : State} {m : MethodId} {args : Array Value} {below : List Frame} {meth : Method} {c : Code} {H : Heap} {locs : List Loc} {cells slots : Nat} {free : Addr → Prop} {ls : Array Slot} {rest : List Value} {Qc : Array Value → State → Outcome → State → Prop} {XC : String → State → State → Prop}
    {pc : Nat} {own E : String} {ce : Cell} {q : Addr} {mc ms : Nat} (hown : s.vm.findClass own = some m.cls) (hlocks : meth.locks = false)
    (hpass : ∀ z ∈ c.exceptionTable.toList, covers z pc = false ∨ (z.catchType ≠ 0 ∧ ∃ nm : String, (Cond.classLink own z.catchType nm).before args s = true ∧ va_Nc E nm s)) (hcell : H[q]? = some ce) (hv : ce.vm = .none) (hcl : s.vm.findClass E = some ce.cls)
    (hx : ∀ t : State, t.heap = H → s.vm.Alike t.vm → XC E s t) (hf : ∀ z ∈ locs, free z.base) (hc : cells ≤ mc) (hs : slots ≤ ms) :
    vx_W p l e R s m args below meth c H locs cells slots (vx_MQ below Qc XC args s mc ms free) (F0 m pc ls rest) q := by
  intro T hT X
  have hpl : e.platform.magicAccessors = ({} : Platform).magicAccessors := by rw [X.admits.platform]
  obtain ⟨vm', hW', X', st⟩ := X.outThrough hlocks q (g := F0 m pc ls rest) rfl rfl rfl (cell := ce) (by rw [hT]; exact hcell) (by rw [hv]; rfl)
    (by obtain ⟨k9, h9, -⟩ := Vm.findClass_spec hcl; exact ⟨k9, h9⟩) (fun z hz => by
      rcases hpass z hz with h | ⟨hz0, nm, hl1, hn1⟩
      · exact Or.inl h
      · obtain ⟨c6, hc6, hcl6⟩ := Cond.classLink_spec hown hl1 e.platform hpl
        obtain ⟨a8, b8, h1, h2, h3⟩ := hn1
        cases Option.some.inj (h1.symm.trans hcl)
        cases Option.some.inj (h2.symm.trans hc6)
        exact Or.inr ⟨hz0, _, hcl6, h3⟩)
  obtain ⟨g₀, hfr⟩ := X'.frames_eq
  have hcell9 : ((T.setVm vm').setFrames (.throwing q :: below)).heap[q]? = some ce := by
    show T.heap[q]? = some ce
    rw [hT]; exact hcell
  have hend : Ended ((T.setVm vm').setFrames (.throwing q :: below)) below (.threw q) := State.frames_setFrames _ (State.cur_lt_of_frames hfr)
  refine ⟨(T.setVm vm').setFrames (.throwing q :: below), ?_, .threw q, X'.here.running, hend, Or.inr ⟨q, rfl, E, ce, locs, hx _ hT (X'.ends _).1.alike, hcell9, hv, hcl, (X'.ends _).1, (X'.ends _).2.mono hc hs, hf⟩⟩
  rw [X.pushThrowing_eq]
  exact st
/-- a thing of a world lies in the heap -/
theorem vx_lt {D : va_G} {cl : List vw_C} {ws : va_W} {H1 : Heap} (h : va_P D cl ws H1) {k : Nat} {q : Nat × va_E} (hk : ws[k]? = some q) : q.1 < H1.size := (h k q hk).lt
end VXS
/-! ===== END ===== -/
/-! ===== BEGIN methods with a table of their own: called by a name, returning or throwing ===== -/
section VXH
/-! vx_backW, vx_callVX, vx_callSX, vx_callVW, vx_runVW, vx_runVX, vx_runSX, vx_ofWH follow the same proofs as their sisters above (Free/Laws.lean, Shelf42/LK1.lean); vx_outP calls Shelf42/NT130.lean (outThrough). -/
section
variable {l : Launch} {R : Room} {p : Program} {e : Env} {below : List Frame} {s : State} {sargs : Array Value} {y : MethodName} {len W9 : Nat}
theorem vx_backW {ws : List Cond} {rm : Room} {Pc : Array Value → State → Prop} {Qc : Array Value → State → Outcome → State → Prop} {XC : String → State → State → Prop} {mc ms : Nat} {free : Addr → Prop} {bytes : ByteArray} {maxL : Nat} {ret : Option FieldType} {hh : List (Nat × Nat × Nat × Nat)}
    (hM : vx_Met l y ws rm Pc Qc XC mc ms free) (hblind : FrameBlind Pc) (hrc : rm.cells = mc) (hrs : rm.slots = ms)
    (hframes : rm.frames + 1 ≤ R.frames) (hlocals : W9 + (maxL + 11) + rm.locals ≤ R.locals)
    (hws : ∀ w ∈ ws, ∀ a' U, s.WarmedH U.vm → w.before a' U = true) (hcode : Cond.codeWith y bytes maxL ret hh ∈ ws) (hinit : ∀ a' U, s.WarmedH U.vm → (Cond.initialized y.cls).before a' U = true) :
    vx_Back l R p e below s sargs y len W9 (PreOf R mc ms Pc) (PostOf Qc mc ms free) (vx_Post XC mc ms free) := by
  intro m meth c A g ig mk a X hg hsize hdg hW hn hp
  have h1 : (headSpec ws rm).pre.before a A.U = true := atoms_intro fun w hw => hws w hw _ _ X.warmed
  have h2 : (Cond.codeWith y bytes maxL ret hh).before a A.U = true := hws _ hcode _ _ X.warmed
  have h3 : (Cond.initialized y.cls).before a A.U = true := hinit _ _ X.warmed
  have h4 : A.cells + (headSpec ws rm).room.cells ≤ R.cells := by rw [show (headSpec ws rm).room.cells = mc from hrc]; exact hp.1
  have h5 : A.slots + (headSpec ws rm).room.slots ≤ R.slots := by rw [show (headSpec ws rm).room.slots = ms from hrs]; exact hp.2.1
  have hPc : Pc a (A.U.calling g mk a) := hblind _ _ _ _ hp.2.2
  obtain ⟨U, Ls, c0, s0⟩ := A
  dsimp only [Pt.U, Pt.locs, Pt.cells, Pt.slots] at h1 h2 h3 h4 h5 X hn hPc ⊢
  obtain ⟨m9, methY, cY, hn9, hmY, hcY, -, hlY, -⟩ := Cond.codeWith_spec h2
  cases Option.some.inj (hn9.symm.trans hn)
  obtain ⟨kY, hkY, -⟩ := className_of_methodNamed hn
  have hinitY : kY.init = .initialized := Cond.initialized_spec (findClass_of_methodNamed hn) hkY h3
  have h : At U g.method c below := by rw [hg]; exact X.here
  have hlocals9 : W9 + (maxL + 11) + (headSpec ws rm).room.locals ≤ R.locals := hlocals
  have happ : (headSpec ws rm).appliesLoose y e.platform (U.calling g mk a) = true :=
    Spec.appliesLoose_calling (g := g) h hdg hn hkY hinitY
      (X.room_calling (g := g) (R' := (headSpec ws rm).room) hsize hmY hcY hframes (by rw [hlY]; omega) h4 h5) h1
  obtain ⟨mid, hmid⟩ := h.above
  have hfr : (U.setTop g).frames = (.java g :: mid) ++ below := by rw [State.frames_setTop' g h.top, hmid]; rfl
  obtain ⟨o, s₂, hsteps, -, hend, hq⟩ := Steps.callFree hM p X.admits X.cas X.clock (acts := []) hfr happ hPc trivial
  have hq' : vx_Q Qc XC mc ms free a (U.calling g mk a) o s₂ := hq
  rw [State.frames_setTop' g h.top] at hend
  obtain ⟨g₀, hg0⟩ := Option.isSome_iff_exists.mp h.top
  obtain ⟨r, hr⟩ := State.topJava?_eq_some.mp hg0
  have hr' : (({ U with heap := s₂.heap, slotsUsed := s₂.slotsUsed } : State).setVm s₂.vm).frames = .java g₀ :: r := hr
  rcases hq' with ⟨hqc, L, hfe, hL⟩ | ⟨q, rfl, E, ce, L, hx, hce, hcv, hcl, hW₂, hsm, hL⟩
  · obtain ⟨⟨v, rfl⟩, hW₂, e2, q2, q3, q4, q5, q6⟩ := id hfe
    have e3 : s₂ = ({ (U.calling g mk a).setFrames s₂.frames with heap := s₂.heap, slotsUsed := s₂.slotsUsed } : State).setVm s₂.vm := by
      have : s₂ = ({ s₂ with vm := (U.calling g mk a).vm } : State).setVm s₂.vm := rfl
      rw [e2] at this
      exact this
    obtain ⟨c₂, i₂, len₂, hc₂, hd₂, hf₂⟩ := hend
    have hW' : U.WarmedH s₂.vm := hW₂
    have hcc : c₂ = c := by
      have h1 : s₂.code? g.method = U.code? g.method := by
        rw [State.code?_eq, State.code?_eq, hW'.alike.method?]
      exact Option.some.inj (hc₂.symm.trans (h1.trans h.code))
    subst hcc
    have hlen : len₂ = len := by rw [hdg] at hd₂; cases hd₂; rfl
    subst hlen
    have hs₂ : s₂ = (({ U with heap := s₂.heap, slotsUsed := s₂.slotsUsed } : State).setVm s₂.vm).setTop { g with pc := g.pc + len₂, stack := v.toList ++ g.stack } := by
      refine e3.trans ?_
      rw [hf₂, State.calling_eq h.top, State.setFrames_setFrames, State.setTop_of_frames _ hr', hr]
      rfl
    have hsame : U.sameButNew ({ U with heap := s₂.heap, slotsUsed := s₂.slotsUsed } : State) L mc ms := by
      refine ⟨?_, q2, q3, q4, q5, q6⟩
      obtain ⟨t, ht, -⟩ := State.frames_cons hr
      show ({ U with heap := s₂.heap, slotsUsed := s₂.slotsUsed } : State) = { U.setFrames U.frames with heap := s₂.heap, slotsUsed := s₂.slotsUsed }
      rw [State.setFrames_self ht]
    subst hg
    refine Or.inl ⟨v, ⟨(({ U with heap := s₂.heap, slotsUsed := s₂.slotsUsed } : State).setVm s₂.vm), Ls ++ L, c0 + mc, s0 + ms⟩,
      ⟨X.admits, X.cas, X.clock, X.frames, X.room, X.hears, X.method, X.code, (X.here.setHeapUsed s₂.heap s₂.slotsUsed).setVm hW'.alike, X.tail, State.WarmedH.trans X.warmed hW', X.limits, X.bytes, X.same.trans (hsame.setVm s.vm)⟩,
      ⟨g, mk, s₂, L, rfl, rfl, hqc, rfl, hL, rfl, rfl⟩, ?_⟩
    show Steps p.tables e below _ ((({ U with heap := s₂.heap, slotsUsed := s₂.slotsUsed } : State).setVm s₂.vm).setTop { g with pc := g.pc + len₂, stack := v.toList ++ g.stack })
    rw [← hs₂]
    exact hsteps
  · obtain ⟨e2, q2, q3, q4, q5, q6⟩ := id hsm
    have e3 : s₂ = ({ (U.calling g mk a).setFrames s₂.frames with heap := s₂.heap, slotsUsed := s₂.slotsUsed } : State).setVm s₂.vm := by
      have : s₂ = ({ s₂ with vm := (U.calling g mk a).vm } : State).setVm s₂.vm := rfl
      rw [e2] at this
      exact this
    have hf₂ : s₂.frames = .throwing q :: .java g :: U.frames.tail := hend
    have hW' : U.WarmedH s₂.vm := hW₂
    have hs₂ : s₂ = ((({ U with heap := s₂.heap, slotsUsed := s₂.slotsUsed } : State).setVm s₂.vm).setTop g).pushFrame (.throwing q) := by
      refine e3.trans ?_
      rw [hf₂, State.calling_eq h.top, State.setFrames_setFrames, State.pushFrame, State.frames_setTop _ hr', State.setTop_of_frames _ hr', State.setFrames_setFrames, hr]
      rfl
    have hsame : U.sameButNew ({ U with heap := s₂.heap, slotsUsed := s₂.slotsUsed } : State) L mc ms := by
      refine ⟨?_, q2, q3, q4, q5, q6⟩
      obtain ⟨t, ht, -⟩ := State.frames_cons hr
      show ({ U with heap := s₂.heap, slotsUsed := s₂.slotsUsed } : State) = { U.setFrames U.frames with heap := s₂.heap, slotsUsed := s₂.slotsUsed }
      rw [State.setFrames_self ht]
    subst hg
    refine Or.inr ⟨q, ⟨(({ U with heap := s₂.heap, slotsUsed := s₂.slotsUsed } : State).setVm s₂.vm), Ls ++ L, c0 + mc, s0 + ms⟩,
      ⟨X.admits, X.cas, X.clock, X.frames, X.room, X.hears, X.method, X.code, (X.here.setHeapUsed s₂.heap s₂.slotsUsed).setVm hW'.alike, X.tail, State.WarmedH.trans X.warmed hW', X.limits, X.bytes, X.same.trans (hsame.setVm s.vm)⟩,
      ⟨g, mk, s₂, L, E, ce, rfl, rfl, hx, hce, hcv, hcl, rfl, hL, rfl, rfl⟩, ?_⟩
    show Steps p.tables e below _ (((({ U with heap := s₂.heap, slotsUsed := s₂.slotsUsed } : State).setVm s₂.vm).setTop g).pushFrame (.throwing q))
    rw [← hs₂]
    exact hsteps
end
variable {p : Program} {l : Launch} {e : Env} {R : Room} {s : State} {m : MethodId} {args : Array Value} {below : List Frame} {meth : Method} {c : Code} {T : State} {H : Heap} {locs : List Loc} {cells slots : Nat}
theorem vx_callVX (X : Stand p l e R s m args below meth c T locs cells slots) (hexec : p.tables.exec = Jvm.exec) {own C : String} {index : Nat} {y : MethodName} {bytes : ByteArray} {maxL : Nat} {ret : Option FieldType} {hh : List (Nat × Nat × Nat × Nat)}
    (hown : s.vm.findClass own = some m.cls) (hlink : (Cond.methodLink own index y).before args s = true) (hinst : (Cond.instanceMethod y).before args s = true) (hsel : (Cond.selects C y y).before args s = true)
    (hcode : (Cond.codeWith y bytes maxL ret hh).before args s = true) (hy : y.cls ≠ "java/lang/invoke/MethodHandle" ∧ y.cls ≠ "java/lang/invoke/VarHandle")
    {W9 : Nat} {Pre : Pt → Array Value → Prop} {Post : Pt → Array Value → Option Value → Pt → Prop} {PostX : Pt → Array Value → Addr → Pt → Prop} (hK : vx_Back l R p e below s args y 3 W9 Pre Post PostX)
    {b : Addr} {cellB : Cell} (hcell : T.heap[b]? = some cellB) (hobj : cellB.vm.isStatics = false) (hcls : s.vm.findClass C = some cellB.cls)
    {g : JFrame} (hg : g.method = m) (hsize : g.locals.size = c.maxLocals) {argsL rest : List Value} (hlen : ∀ sig, parseMethodDescriptor y.desc = some sig → argsL.length = sig.parameters.length)
    (hstack : g.stack = argsL.reverse ++ .ref b :: rest) (hW : 2 * g.monitorRoom + (rest.map fun v => v.category).sum ≤ W9) (hdg : decode c.code g.pc = .ok (.invokevirtual index, 3))
    (hpre : ∀ vm₁, s.WarmedH vm₁ → Pre ⟨T.setVm vm₁, locs, cells, slots⟩ (Value.ref b :: argsL).toArray) :
    (∃ (v : Option Value) (vm₁ : Vm) (B : Pt), s.WarmedH vm₁ ∧ Stand p l e R s m args below meth c B.U B.locs B.cells B.slots ∧ Post ⟨T.setVm vm₁, locs, cells, slots⟩ (Value.ref b :: argsL).toArray v B ∧
      ∀ target, Steps p.tables e below (B.U.setTop { g with pc := g.pc + 3, stack := v.toList ++ rest }) target → Steps p.tables e below (T.setTop g) target) ∨
    (∃ (q : Addr) (vm₁ : Vm) (B : Pt), s.WarmedH vm₁ ∧ Stand p l e R s m args below meth c B.U B.locs B.cells B.slots ∧ PostX ⟨T.setVm vm₁, locs, cells, slots⟩ (Value.ref b :: argsL).toArray q B ∧
      Steps p.tables e below (T.setTop g) ((B.U.setTop { g with stack := rest }).pushFrame (.throwing q))) := by
  obtain ⟨mk, methM, hnamed, hmethM, hstM, habM⟩ := Cond.instanceMethod_spec hinst
  obtain ⟨m8, methM', cM, hn8, hmethM', -, -, -, -, -, -, hsigM⟩ := Cond.codeWith_spec hcode
  cases Option.some.inj (hn8.symm.trans hnamed)
  cases hmethM.symm.trans hmethM'
  obtain ⟨c2, r2, m2, q1, q2, q3, q4, kP, hkP, hkPi⟩ := Cond.selects_spec hsel
  cases hcls.symm.trans q1
  cases (State.methodFound?_of_named hnamed hy).symm.trans q2
  cases hnamed.symm.trans q3
  have hselP : selectMethod e.platform s.vm cellB.cls mk = .method mk := by rw [Launch.admits_selectMethod X.admits]; exact q4
  obtain ⟨vm₁, X₁, hstep₁⟩ := X.invokevirtual hexec hown hlink hnamed hmethM hstM hkP hkPi hy (a := b) (cell := cellB) hcell
    (fun z h => by rw [h] at hobj; cases hobj) hselP hmethM habM hkP hkPi (g := g) hg (argsL := argsL) (rest := rest) (hlen _ hsigM) hstack hdg
  rcases hK m meth c ⟨T.setVm vm₁, locs, cells, slots⟩ { g with stack := rest } (.invokevirtual index) mk (Value.ref b :: argsL).toArray X₁ hg hsize hdg hW (X₁.named hnamed) (hpre vm₁ X₁.warmed) with ⟨v, B, X', hpost, hsteps⟩ | ⟨q, B, X', hpost, hsteps⟩
  · exact Or.inl ⟨v, vm₁, B, X₁.warmed, X', hpost, fun target h => hstep₁ _ fun acts => by rw [doInvoke_state]; exact hsteps.trans h⟩
  · exact Or.inr ⟨q, vm₁, B, X₁.warmed, X', hpost, hstep₁ _ fun acts => by rw [doInvoke_state]; exact hsteps⟩
theorem vx_callSX (X : Stand p l e R s m args below meth c T locs cells slots) (hexec : p.tables.exec = Jvm.exec) {own : String} {index : Nat} {y : MethodName} {bytes : ByteArray} {maxL : Nat} {ret : Option FieldType} {hh : List (Nat × Nat × Nat × Nat)}
    (hown : s.vm.findClass own = some m.cls) (hlink : (Cond.methodLink own index y).before args s = true) (hstat : (Cond.static y).before args s = true) (hinit : (Cond.initialized y.cls).before args s = true)
    (hcode : (Cond.codeWith y bytes maxL ret hh).before args s = true) (hy : y.cls ≠ "java/lang/invoke/MethodHandle" ∧ y.cls ≠ "java/lang/invoke/VarHandle")
    {W9 : Nat} {Pre : Pt → Array Value → Prop} {Post : Pt → Array Value → Option Value → Pt → Prop} {PostX : Pt → Array Value → Addr → Pt → Prop} (hK : vx_Back l R p e below s args y 3 W9 Pre Post PostX)
    {g : JFrame} (hg : g.method = m) (hsize : g.locals.size = c.maxLocals) {argsL rest : List Value} (hlen : ∀ sig, parseMethodDescriptor y.desc = some sig → argsL.length = sig.parameters.length)
    (hstack : g.stack = argsL.reverse ++ rest) (hW : 2 * g.monitorRoom + (rest.map fun v => v.category).sum ≤ W9) (hdg : decode c.code g.pc = .ok (.invokestatic index, 3))
    (hpre : ∀ vm₁, s.WarmedH vm₁ → Pre ⟨T.setVm vm₁, locs, cells, slots⟩ argsL.toArray) :
    (∃ (v : Option Value) (vm₁ : Vm) (B : Pt), s.WarmedH vm₁ ∧ Stand p l e R s m args below meth c B.U B.locs B.cells B.slots ∧ Post ⟨T.setVm vm₁, locs, cells, slots⟩ argsL.toArray v B ∧
      ∀ target, Steps p.tables e below (B.U.setTop { g with pc := g.pc + 3, stack := v.toList ++ rest }) target → Steps p.tables e below (T.setTop g) target) ∨
    (∃ (q : Addr) (vm₁ : Vm) (B : Pt), s.WarmedH vm₁ ∧ Stand p l e R s m args below meth c B.U B.locs B.cells B.slots ∧ PostX ⟨T.setVm vm₁, locs, cells, slots⟩ argsL.toArray q B ∧
      Steps p.tables e below (T.setTop g) ((B.U.setTop { g with stack := rest }).pushFrame (.throwing q))) := by
  obtain ⟨mk, methM, cM, hnamed, hmethM, -, -, -, -, -, -, hsigM⟩ := Cond.codeWith_spec hcode
  have hstatic : methM.isStatic = true := Cond.static_spec hnamed hmethM hstat
  obtain ⟨kP, hkP, -⟩ := className_of_methodNamed hnamed
  have hinitP : kP.init = .initialized := Cond.initialized_spec (findClass_of_methodNamed hnamed) hkP hinit
  obtain ⟨vm₁, X₁, hstep₁⟩ := X.invokestatic hexec hown hlink hnamed hmethM hstatic hkP hinitP hy (g := g) hg (argsL := argsL) (rest := rest) (hlen _ hsigM) hstack hdg
  rcases hK m meth c ⟨T.setVm vm₁, locs, cells, slots⟩ { g with stack := rest } (.invokestatic index) mk argsL.toArray X₁ hg hsize hdg hW (X₁.named hnamed) (hpre vm₁ X₁.warmed) with ⟨v, B, X', hpost, hsteps⟩ | ⟨q, B, X', hpost, hsteps⟩
  · exact Or.inl ⟨v, vm₁, B, X₁.warmed, X', hpost, fun target h => hstep₁ _ fun acts => by rw [doInvoke_state]; exact hsteps.trans h⟩
  · exact Or.inr ⟨q, vm₁, B, X₁.warmed, X', hpost, hstep₁ _ fun acts => by rw [doInvoke_state]; exact hsteps⟩
theorem vx_callVW (X : Stand p l e R s m args below meth c T locs cells slots) (hexec : p.tables.exec = Jvm.exec) {own C : String} {index : Nat} {y : MethodName} {bytes : ByteArray} {maxL : Nat} {ret : Option FieldType} {hh : List (Nat × Nat × Nat × Nat)}
    (hown : s.vm.findClass own = some m.cls) (hlink : (Cond.methodLink own index y).before args s = true) (hinst : (Cond.instanceMethod y).before args s = true) (hsel : (Cond.selects C y y).before args s = true)
    (hcode : (Cond.codeWith y bytes maxL ret hh).before args s = true) (hy : y.cls ≠ "java/lang/invoke/MethodHandle" ∧ y.cls ≠ "java/lang/invoke/VarHandle")
    {W9 : Nat} {Pre : Pt → Array Value → Prop} {Post : Pt → Array Value → Option Value → Pt → Prop} (hK : Back l R p e below s args y 3 W9 Pre Post)
    {b : Addr} {cellB : Cell} (hcell : T.heap[b]? = some cellB) (hobj : cellB.vm.isStatics = false) (hcls : s.vm.findClass C = some cellB.cls)
    {g : JFrame} (hg : g.method = m) (hsize : g.locals.size = c.maxLocals) {argsL rest : List Value} (hlen : ∀ sig, parseMethodDescriptor y.desc = some sig → argsL.length = sig.parameters.length)
    (hstack : g.stack = argsL.reverse ++ .ref b :: rest) (hW : 2 * g.monitorRoom + (rest.map fun v => v.category).sum ≤ W9) (hdg : decode c.code g.pc = .ok (.invokevirtual index, 3))
    (hpre : ∀ vm₁, s.WarmedH vm₁ → Pre ⟨T.setVm vm₁, locs, cells, slots⟩ (Value.ref b :: argsL).toArray) :
    ∃ (v : Option Value) (vm₁ : Vm) (B : Pt), s.WarmedH vm₁ ∧ Stand p l e R s m args below meth c B.U B.locs B.cells B.slots ∧ Post ⟨T.setVm vm₁, locs, cells, slots⟩ (Value.ref b :: argsL).toArray v B ∧
      ∀ target, Steps p.tables e below (B.U.setTop { g with pc := g.pc + 3, stack := v.toList ++ rest }) target → Steps p.tables e below (T.setTop g) target := by
  obtain ⟨mk, methM, hnamed, hmethM, hstM, habM⟩ := Cond.instanceMethod_spec hinst
  obtain ⟨m8, methM', cM, hn8, hmethM', -, -, -, -, -, -, hsigM⟩ := Cond.codeWith_spec hcode
  cases Option.some.inj (hn8.symm.trans hnamed)
  cases hmethM.symm.trans hmethM'
  obtain ⟨c2, r2, m2, q1, q2, q3, q4, kP, hkP, hkPi⟩ := Cond.selects_spec hsel
  cases hcls.symm.trans q1
  cases (State.methodFound?_of_named hnamed hy).symm.trans q2
  cases hnamed.symm.trans q3
  have hselP : selectMethod e.platform s.vm cellB.cls mk = .method mk := by rw [Launch.admits_selectMethod X.admits]; exact q4
  obtain ⟨vm₁, X₁, hstep₁⟩ := X.invokevirtual hexec hown hlink hnamed hmethM hstM hkP hkPi hy (a := b) (cell := cellB) hcell
    (fun z h => by rw [h] at hobj; cases hobj) hselP hmethM habM hkP hkPi (g := g) hg (argsL := argsL) (rest := rest) (hlen _ hsigM) hstack hdg
  obtain ⟨v, B, X', hpost, hsteps⟩ := hK m meth c ⟨T.setVm vm₁, locs, cells, slots⟩ { g with stack := rest } (.invokevirtual index) mk (Value.ref b :: argsL).toArray X₁ hg hsize hdg hW (X₁.named hnamed) (hpre vm₁ X₁.warmed)
  exact ⟨v, vm₁, B, X₁.warmed, X', hpost, fun target h => hstep₁ _ fun acts => by rw [doInvoke_state]; exact hsteps.trans h⟩
abbrev vx_CVW (R : Room) (s : State) (args : Array Value) (own C : String) (index : Nat) (y : MethodName) (bytes : ByteArray) (maxL : Nat) (ret : Option FieldType) (hh : List (Nat × Nat × Nat × Nat)) (ws : List Cond) (rm : Room) (mc ms n : Nat) : Prop :=
  (rm.cells = mc ∧ rm.slots = ms ∧ rm.frames + 1 ≤ R.frames ∧ 8 + (maxL + 11) + rm.locals ≤ R.locals ∧ (∀ w ∈ ws, ∀ (a' : Array Value) (U : State), s.WarmedH U.vm → w.before a' U = true) ∧ Cond.codeWith y bytes maxL ret hh ∈ ws) ∧
  (Cond.codeWith y bytes maxL ret hh).before args s = true ∧ (Cond.initialized y.cls).before args s = true ∧ (y.cls ≠ "java/lang/invoke/MethodHandle" ∧ y.cls ≠ "java/lang/invoke/VarHandle") ∧
  (∀ sig, parseMethodDescriptor y.desc = some sig → n = sig.parameters.length) ∧ (Cond.methodLink own index y).before args s = true ∧ (Cond.instanceMethod y).before args s = true ∧ (Cond.selects C y y).before args s = true
theorem vx_cwVW {own C : String} {index maxL mc ms : Nat} {y : MethodName} {bytes : ByteArray} {ret : Option FieldType} {hh : List (Nat × Nat × Nat × Nat)} {Ts ws ws' : List Cond} {rm : Room} (n : Nat) (ht : ∀ w ∈ Ts, w.before args s = true) (hT : GoodIn Ts (wsV own index C y ws)) (hw : ws = Cond.codeWith y bytes maxL ret hh :: ws') (hrc : rm.cells = mc) (hrs : rm.slots = ms)
    (hd : y.cls = C ∧ y.cls ≠ "java/lang/invoke/MethodHandle" ∧ y.cls ≠ "java/lang/invoke/VarHandle" ∧ (parseMethodDescriptor y.desc).map (fun d => d.parameters.length) = some n) (hR : rm.frames + 1 ≤ R.frames ∧ 8 + (maxL + 11) + rm.locals ≤ R.locals) :
    vx_CVW R s args own C index y bytes maxL ret hh ws rm mc ms n := by
  obtain ⟨hC, hd⟩ := hd
  subst hC
  have ok : ∀ w ∈ wsV own index y.cls y ws, w.before args s = true := fun w h => ht w (hT w h).1
  have hG : GoodIn Ts ws := fun w h => hT w (by unfold wsV; exact List.mem_append_right _ h)
  have hc : Cond.codeWith y bytes maxL ret hh ∈ ws := by rw [hw]; exact List.mem_cons_self
  refine ⟨⟨hrc, hrs, hR.1, hR.2, pay_in ht hG, hc⟩, ht _ (hG _ hc).1, ok _ (by simp [wsV]), ⟨hd.1, hd.2.1⟩, fun sig h => ?_, ok _ (by simp [wsV]), ok _ (by simp [wsV]), ok _ (by simp [wsV])⟩
  have h2 := hd.2.2
  rw [h] at h2
  exact (Option.some.inj h2).symm
theorem vx_runVW {y : MethodName} {bytes cc : ByteArray} {maxL nL mc ms n index : Nat} {ret : Option FieldType} {hh : List (Nat × Nat × Nat × Nat)} {ws : List Cond} {rm : Room} {Pc : Array Value → State → Prop} {Qc : Array Value → State → Outcome → State → Prop} {free : Addr → Prop} {Ts : List Cond} {own C : String} {b : Addr} {As rest : List Value} {g : JFrame}
    (S : CallFix p m c cc nL s args Ts own) (hM : Met l y ws rm Pc Qc mc ms free) (cw : vx_CVW R s args own C index y bytes maxL ret hh ws rm mc ms n) (hp : PreV s H C b Pc As)
    (hg : g.method = m) (hn : As.length = n) (hsize : g.locals.size = nL) (hstack : g.stack = As.reverse ++ .ref b :: rest) (hW : 2 * g.monitorRoom + (rest.map fun v => v.category).sum ≤ 8) (hdg : decode cc g.pc = .ok (.invokevirtual index, 3)) (hf : cells + mc ≤ R.cells ∧ slots + ms ≤ R.slots) :
    va_Run p l e R s m args below meth c H locs cells slots mc ms g rest (Qc (Value.ref b :: As).toArray) free := by
  obtain ⟨⟨hrc, hrs, hfr, hlo, hws, hcw⟩, hcode, hini, hy, hlen, hl, hin, hse⟩ := cw
  have hK : Back l R p e below s args y 3 8 (PreOf R mc ms Pc) (PostOf Qc mc ms free) := va_backW (hh := hh) (bytes := bytes) (maxL := maxL) (ret := ret) hM hp.1 hrc hrs hfr hlo hws hcw (fun a' U hW => word_at hW (Or.inl (by first | rfl | simp [Cond.onTables, Cond.keeps, Cond.steady])) hini)
  obtain ⟨hx, hb, hml, ho, -⟩ := S
  obtain ⟨-, ⟨cellB, hcB, hoB, hclB⟩, hPc⟩ := hp
  intro T hT X
  obtain ⟨v, vm₁, ⟨U', l2, c2, s2⟩, hW₁, X', ⟨g', mk, t, L, e1, e2, hq, h1, hL, h2, h3⟩, st⟩ := vx_callVW X hx (C := C) (hh := hh) (bytes := bytes) (maxL := maxL) (ret := ret) ho hl hin hse hcode hy hK (by rw [hT]; exact hcB) hoB hclB hg (hsize.trans hml.symm) (argsL := As) (rest := rest) (fun sig h => hn.trans (hlen sig h)) hstack hW (by rw [hb]; exact hdg)
    (fun vm₁ hW₁ => ⟨hf.1, hf.2, hPc (T.setVm vm₁) hT hW₁⟩)
  dsimp only [Pt.U, Pt.locs, Pt.cells, Pt.slots] at X' e1 e2 h1 h2 h3 st
  subst h1; subst h2; subst h3
  exact ⟨v, (T.setVm vm₁).calling g' mk (Value.ref b :: As).toArray, t, U', L, hT, X', hL, e1, e2, hq, st⟩
section
variable {y : MethodName} {bytes cc : ByteArray} {maxL nL mc ms n index : Nat} {ret : Option FieldType} {ws : List Cond} {rm : Room} {Pc : Array Value → State → Prop} {Qc : Array Value → State → Outcome → State → Prop} {XC : String → State → State → Prop} {free : Addr → Prop} {Ts : List Cond} {own C : String} {b : Addr} {As rest : List Value} {g : JFrame}
theorem vx_runVX {hh : List (Nat × Nat × Nat × Nat)} (S : CallFix p m c cc nL s args Ts own) (hM : vx_Met l y ws rm Pc Qc XC mc ms free) (cw : vx_CVW R s args own C index y bytes maxL ret hh ws rm mc ms n) (hp : PreV s H C b Pc As)
    (hg : g.method = m) (hn : As.length = n) (hsize : g.locals.size = nL) (hstack : g.stack = As.reverse ++ .ref b :: rest) (hW : 2 * g.monitorRoom + (rest.map fun v => v.category).sum ≤ 8) (hdg : decode cc g.pc = .ok (.invokevirtual index, 3)) (hf : cells + mc ≤ R.cells ∧ slots + ms ≤ R.slots) :
    vx_Run p l e R s m args below meth c H locs cells slots mc ms g rest (Qc (Value.ref b :: As).toArray) XC free := by
  obtain ⟨⟨hrc, hrs, hfr, hlo, hws, hcw⟩, hcode, hini, hy, hlen, hl, hin, hse⟩ := cw
  have hK : vx_Back l R p e below s args y 3 8 (PreOf R mc ms Pc) (PostOf Qc mc ms free) (vx_Post XC mc ms free) := vx_backW (hh := hh) (bytes := bytes) (maxL := maxL) (ret := ret) hM hp.1 hrc hrs hfr hlo hws hcw (fun a' U hW => word_at hW (Or.inl (by first | rfl | simp [Cond.onTables, Cond.keeps, Cond.steady])) hini)
  obtain ⟨hx, hb, hml, ho, -⟩ := S
  obtain ⟨-, ⟨cellB, hcB, hoB, hclB⟩, hPc⟩ := hp
  intro T hT X
  rcases vx_callVX X hx (C := C) (hh := hh) (bytes := bytes) (maxL := maxL) (ret := ret) ho hl hin hse hcode hy hK (by rw [hT]; exact hcB) hoB hclB hg (hsize.trans hml.symm) (argsL := As) (rest := rest) (fun sig h => hn.trans (hlen sig h)) hstack hW (by rw [hb]; exact hdg)
    (fun vm₁ hW₁ => ⟨hf.1, hf.2, hPc (T.setVm vm₁) hT hW₁⟩) with ⟨v, vm₁, ⟨U', l2, c2, s2⟩, hW₁, X', ⟨g', mk, t, L, e1, e2, hq, h1, hL, h2, h3⟩, st⟩ | ⟨q, vm₁, ⟨U', l2, c2, s2⟩, hW₁, X', ⟨g', mk, t, L, E, ce, e1, e2, hq, hce, hcv, hcl, h1, hL, h2, h3⟩, st⟩
  · dsimp only [Pt.U, Pt.locs, Pt.cells, Pt.slots] at X' e1 e2 h1 h2 h3 st
    subst h1; subst h2; subst h3
    exact Or.inl ⟨v, (T.setVm vm₁).calling g' mk (Value.ref b :: As).toArray, t, U', L, hT, X', hL, e1, e2, hq, st⟩
  · dsimp only [Pt.U, Pt.locs, Pt.cells, Pt.slots] at X' e1 e2 h1 h2 h3 st hcl
    subst h1; subst h2; subst h3
    exact Or.inr ⟨q, (T.setVm vm₁).calling g' mk (Value.ref b :: As).toArray, t, U', L, E, ce, hT, X', hL, e1, e2, hq, hce, hcv, vx_cls hW₁ hcl, st⟩
theorem vx_runSX {hh : List (Nat × Nat × Nat × Nat)} (S : CallFix p m c cc nL s args Ts own) (hM : vx_Met l y ws rm Pc Qc XC mc ms free) (cw : vx_CSW R s args own index y bytes maxL ret hh ws rm mc ms n) (hp : PreS s H Pc As)
    (hg : g.method = m) (hn : As.length = n) (hsize : g.locals.size = nL) (hstack : g.stack = As.reverse ++ rest) (hW : 2 * g.monitorRoom + (rest.map fun v => v.category).sum ≤ 8) (hdg : decode cc g.pc = .ok (.invokestatic index, 3)) (hf : cells + mc ≤ R.cells ∧ slots + ms ≤ R.slots) :
    vx_Run p l e R s m args below meth c H locs cells slots mc ms g rest (Qc As.toArray) XC free := by
  obtain ⟨⟨hrc, hrs, hfr, hlo, hws, hcw⟩, hcode, hini, hy, hlen, hl, hstt⟩ := cw
  have hK : vx_Back l R p e below s args y 3 8 (PreOf R mc ms Pc) (PostOf Qc mc ms free) (vx_Post XC mc ms free) := vx_backW (hh := hh) (bytes := bytes) (maxL := maxL) (ret := ret) hM hp.1 hrc hrs hfr hlo hws hcw (fun a' U hW => word_at hW (Or.inl (by first | rfl | simp [Cond.onTables, Cond.keeps, Cond.steady])) hini)
  obtain ⟨hx, hb, hml, ho, -⟩ := S
  intro T hT X
  rcases vx_callSX X hx (hh := hh) (bytes := bytes) (maxL := maxL) (ret := ret) ho hl hstt hini hcode hy hK hg (hsize.trans hml.symm) (argsL := As) (rest := rest) (fun sig h => hn.trans (hlen sig h)) hstack hW (by rw [hb]; exact hdg)
    (fun vm₁ hW₁ => ⟨hf.1, hf.2, hp.2 (T.setVm vm₁) hT hW₁⟩) with ⟨v, vm₁, ⟨U', l2, c2, s2⟩, hW₁, X', ⟨g', mk, t, L, e1, e2, hq, h1, hL, h2, h3⟩, st⟩ | ⟨q, vm₁, ⟨U', l2, c2, s2⟩, hW₁, X', ⟨g', mk, t, L, E, ce, e1, e2, hq, hce, hcv, hcl, h1, hL, h2, h3⟩, st⟩
  · dsimp only [Pt.U, Pt.locs, Pt.cells, Pt.slots] at X' e1 e2 h1 h2 h3 st
    subst h1; subst h2; subst h3
    exact Or.inl ⟨v, (T.setVm vm₁).calling g' mk As.toArray, t, U', L, hT, X', hL, e1, e2, hq, st⟩
  · dsimp only [Pt.U, Pt.locs, Pt.cells, Pt.slots] at X' e1 e2 h1 h2 h3 st hcl
    subst h1; subst h2; subst h3
    exact Or.inr ⟨q, (T.setVm vm₁).calling g' mk As.toArray, t, U', L, E, ce, hT, X', hL, e1, e2, hq, hce, hcv, vx_cls hW₁ hcl, st⟩
end
end VXH
theorem vx_ofWH {l : Launch} {y : MethodName} {ws ws' : List Cond} {rm : Room} {Pc : Array Value → State → Prop} {Qc : Array Value → State → Outcome → State → Prop} {XC : String → State → State → Prop} {mc ms : Nat} {free : Addr → Prop} {cc : ByteArray} {maxL : Nat} {ret : Option FieldType} {hh : List (Nat × Nat × Nat × Nat)}
    (hy : plainName y.cls = true) (hw : ws = Cond.codeWith y cc maxL ret hh :: ws')
    (body : ∀ p e s m args below meth c s₁, BodyLoose p l y (headSpec ws rm) cc maxL ret e s m args below meth c s₁ → c.maxLocals = maxL → Pc args s →
      W p l e (headSpec ws rm).room s m args below meth c s.heap [] 0 0 (vx_MQ below Qc XC args s mc ms free) (entryFrame m args maxL)) : vx_Met l y ws rm Pc Qc XC mc ms free := by
  refine MetFree.of_bodyS (code := cc) (maxLocals := maxL) (ret := ret) hy ?_ ?_
  · intro args s m h hn
    obtain ⟨m9, meth, c, hn9, h1, h2, h3, h4, -, h5, h6, -⟩ := Cond.codeWith_spec (atoms_spec (ws := ws) h _ (by rw [hw]; exact List.mem_cons_self))
    cases hn.symm.trans hn9
    exact ⟨meth, c, h1, h2, h3, h4, h5, h6⟩
  · intro p e s m args below meth c s₁ B hml hP _
    have hh0 : s₁.heap = s.heap := by rw [B.state]; rfl
    obtain ⟨t, a1, o, b1, b2, b3⟩ := body p e s m args below meth c s₁ B hml hP s₁ hh0 (Stand.of_body B)
    exact ⟨t, o, a1, b1, b2, b3⟩
/-! ===== END ===== -/
end
section
/-! ===== BEGIN printed: names, fields, word lists, decode rows ===== -/
def RX0 : String := "ProcessMiner$Log"
def TX0 : u_T := fun k => match k with
  | 0 => ("ProcessMiner$Log", "events", "[I", true)
  | 1 => ("ProcessMiner$Log", "ends", "[I", true)
  | 2 => ("ProcessMiner$Log", "size", "I", false)
  | 3 => ("ProcessMiner$Log", "traces", "I", false)
  | 4 => ("ProcessMiner$Log", "used", "I", false)
  | 5 => ("ProcessMiner$Log", "beginning", "I", false)
  | 6 => ("ProcessMiner$Log", "ending", "I", false)
  | 7 => ("ProcessMiner$Log", "hasEmpty", "Z", false)
  | 8 => ("ProcessMiner$Log", "next", "[I", true)
  | 9 => ("ProcessMiner$Log", "reach", "[I", true)
  | 10 => ("ProcessMiner$Log", "near", "[I", true)
  | 11 => ("ProcessMiner$Log", "parts", "[I", true)
  | _ => ("ProcessMiner$Log", "partCount", "I", false)
def tyX0 : Nat → FieldType := fun k => match k with
  | 0 => .array .int
  | 1 => .array .int
  | 2 => .int
  | 3 => .int
  | 4 => .int
  | 5 => .int
  | 6 => .int
  | 7 => .boolean
  | 8 => .array .int
  | 9 => .array .int
  | 10 => .array .int
  | 11 => .array .int
  | _ => .int
abbrev wsX00 : List Cond := u_ws RX0 TX0 13
theorem nmX0 : ∀ a, a < 13 → ∀ b, b < 13 → a ≠ b → (TX0 a).2.1 ≠ (TX0 b).2.1 := by decide +kernel
theorem tyX0_ok : ∀ k, k < 13 → parseFieldDescriptor (TX0 k).2.2.1 = some (tyX0 k) := by decide +kernel
abbrev cX0_init : ByteArray := prog_2_method_1_code
def yX0_init : MethodName := ⟨RX0, "<init>", "()V"⟩
abbrev cX0_clear : ByteArray := prog_2_method_2_code
def yX0_clear : MethodName := ⟨RX0, "clear", "()V"⟩
abbrev cX0_append : ByteArray := prog_2_method_3_code
def yX0_append : MethodName := ⟨RX0, "append", "(I)V"⟩
abbrev cX0_closeTrace : ByteArray := prog_2_method_4_code
def yX0_closeTrace : MethodName := ⟨RX0, "closeTrace", "()V"⟩
abbrev cX0_openStart : ByteArray := prog_2_method_5_code
def yX0_openStart : MethodName := ⟨RX0, "openStart", "()I"⟩
abbrev cX0_take : ByteArray := prog_2_method_6_code
def yX0_take : MethodName := ⟨RX0, "take", "(LProcessMiner$Log;II)V"⟩
abbrev cX0_takeTrace : ByteArray := prog_2_method_7_code
def yX0_takeTrace : MethodName := ⟨RX0, "takeTrace", "(LProcessMiner$Log;IIIZ)V"⟩
abbrev cX0_measure : ByteArray := prog_2_method_8_code
def yX0_measure : MethodName := ⟨RX0, "measure", "()V"⟩
abbrev cX0_measureTrace : ByteArray := prog_2_method_9_code
def yX0_measureTrace : MethodName := ⟨RX0, "measureTrace", "(II)V"⟩
abbrev cX0_findReach : ByteArray := prog_2_method_10_code
def yX0_findReach : MethodName := ⟨RX0, "findReach", "()V"⟩
abbrev cX0_cut : ByteArray := prog_2_method_11_code
def yX0_cut : MethodName := ⟨RX0, "cut", "()I"⟩
abbrev cX0_hasNext : ByteArray := prog_2_method_12_code
def yX0_hasNext : MethodName := ⟨RX0, "hasNext", "()Z"⟩
abbrev cX0_isCutByChoice : ByteArray := prog_2_method_13_code
def yX0_isCutByChoice : MethodName := ⟨RX0, "isCutByChoice", "()Z"⟩
abbrev cX0_isCutByOrder : ByteArray := prog_2_method_14_code
def yX0_isCutByOrder : MethodName := ⟨RX0, "isCutByOrder", "()Z"⟩
abbrev cX0_isCutByBoth : ByteArray := prog_2_method_15_code
def yX0_isCutByBoth : MethodName := ⟨RX0, "isCutByBoth", "()Z"⟩
abbrev cX0_isCutByAgain : ByteArray := prog_2_method_16_code
def yX0_isCutByAgain : MethodName := ⟨RX0, "isCutByAgain", "()Z"⟩
abbrev cX0_addPart : ByteArray := prog_2_method_17_code
def yX0_addPart : MethodName := ⟨RX0, "addPart", "(I)V"⟩
abbrev cX0_linkNeighbours : ByteArray := prog_2_method_18_code
def yX0_linkNeighbours : MethodName := ⟨RX0, "linkNeighbours", "()V"⟩
abbrev cX0_addGroups : ByteArray := prog_2_method_19_code
def yX0_addGroups : MethodName := ⟨RX0, "addGroups", "(I)V"⟩
abbrev cX0_groupOf : ByteArray := prog_2_method_20_code
def yX0_groupOf : MethodName := ⟨RX0, "groupOf", "(II)I"⟩
abbrev cX0_sortByReach : ByteArray := prog_2_method_21_code
def yX0_sortByReach : MethodName := ⟨RX0, "sortByReach", "()V"⟩
abbrev cX0_leadsInto : ByteArray := prog_2_method_22_code
def yX0_leadsInto : MethodName := ⟨RX0, "leadsInto", "(II)Z"⟩
abbrev cX0_joinLacking : ByteArray := prog_2_method_23_code
def yX0_joinLacking : MethodName := ⟨RX0, "joinLacking", "()V"⟩
abbrev cX0_firstLacking : ByteArray := prog_2_method_24_code
def yX0_firstLacking : MethodName := ⟨RX0, "firstLacking", "()I"⟩
abbrev cX0_joinToFirst : ByteArray := prog_2_method_25_code
def yX0_joinToFirst : MethodName := ⟨RX0, "joinToFirst", "(I)V"⟩
abbrev cX0_belongsToFirst : ByteArray := prog_2_method_26_code
def yX0_belongsToFirst : MethodName := ⟨RX0, "belongsToFirst", "(I)Z"⟩
def RX1 : String := "ProcessMiner$Matcher"
def TX1 : u_T := fun k => match k with
  | 0 => ("ProcessMiner$Matcher", "tree", "LProcessMiner$Tree;", true)
  | 1 => ("ProcessMiner$Matcher", "word", "[I", true)
  | 2 => ("ProcessMiner$Matcher", "wordLength", "I", false)
  | _ => ("ProcessMiner$Matcher", "ends", "[I", true)
def tyX1 : Nat → FieldType := fun k => match k with
  | 0 => .object "ProcessMiner$Tree"
  | 1 => .array .int
  | 2 => .int
  | _ => .array .int
abbrev wsX10 : List Cond := u_ws RX1 TX1 4
theorem nmX1 : ∀ a, a < 4 → ∀ b, b < 4 → a ≠ b → (TX1 a).2.1 ≠ (TX1 b).2.1 := by decide +kernel
theorem tyX1_ok : ∀ k, k < 4 → parseFieldDescriptor (TX1 k).2.2.1 = some (tyX1 k) := by decide +kernel
abbrev cX1_init : ByteArray := prog_3_method_1_code
def yX1_init : MethodName := ⟨RX1, "<init>", "(LProcessMiner$Tree;)V"⟩
abbrev cX1_matches : ByteArray := prog_3_method_2_code
def yX1_matches : MethodName := ⟨RX1, "matches", "([III)Z"⟩
abbrev cX1_countWords : ByteArray := prog_3_method_3_code
def yX1_countWords : MethodName := ⟨RX1, "countWords", "(I)I"⟩
abbrev cX1_countSpelt : ByteArray := prog_3_method_4_code
def yX1_countSpelt : MethodName := ⟨RX1, "countSpelt", "(LProcessMiner$Matcher;I)I"⟩
abbrev cX1_isWhole : ByteArray := prog_3_method_5_code
def yX1_isWhole : MethodName := ⟨RX1, "isWhole", "()Z"⟩
abbrev cX1_readFrom : ByteArray := prog_3_method_6_code
def yX1_readFrom : MethodName := ⟨RX1, "readFrom", "(I)V"⟩
abbrev cX1_endsOf : ByteArray := prog_3_method_7_code
def yX1_endsOf : MethodName := ⟨RX1, "endsOf", "(II)I"⟩
abbrev cX1_allEnds : ByteArray := prog_3_method_8_code
def yX1_allEnds : MethodName := ⟨RX1, "allEnds", "(I)I"⟩
abbrev cX1_endsOfLabel : ByteArray := prog_3_method_9_code
def yX1_endsOfLabel : MethodName := ⟨RX1, "endsOfLabel", "(II)I"⟩
abbrev cX1_endsOfAlternatives : ByteArray := prog_3_method_10_code
def yX1_endsOfAlternatives : MethodName := ⟨RX1, "endsOfAlternatives", "(III)I"⟩
abbrev cX1_endsOfOrder : ByteArray := prog_3_method_11_code
def yX1_endsOfOrder : MethodName := ⟨RX1, "endsOfOrder", "(II)I"⟩
abbrev cX1_endsOfBoth : ByteArray := prog_3_method_12_code
def yX1_endsOfBoth : MethodName := ⟨RX1, "endsOfBoth", "(II)I"⟩
abbrev cX1_endsOfAgain : ByteArray := prog_3_method_13_code
def yX1_endsOfAgain : MethodName := ⟨RX1, "endsOfAgain", "(II)I"⟩
abbrev cX1_endsOfChild : ByteArray := prog_3_method_14_code
def yX1_endsOfChild : MethodName := ⟨RX1, "endsOfChild", "(III)I"⟩
def RX2 : String := "ProcessMiner$Tree"
def TX2 : u_T := fun k => match k with
  | 0 => ("ProcessMiner$Tree", "kinds", "[I", true)
  | 1 => ("ProcessMiner$Tree", "sets", "[I", true)
  | 2 => ("ProcessMiner$Tree", "parents", "[I", true)
  | 3 => ("ProcessMiner$Tree", "childCounts", "[I", true)
  | 4 => ("ProcessMiner$Tree", "childNodes", "[I", true)
  | 5 => ("ProcessMiner$Tree", "sums", "[I", true)
  | _ => ("ProcessMiner$Tree", "size", "I", false)
def tyX2 : Nat → FieldType := fun k => match k with
  | 0 => .array .int
  | 1 => .array .int
  | 2 => .array .int
  | 3 => .array .int
  | 4 => .array .int
  | 5 => .array .int
  | _ => .int
abbrev wsX20 : List Cond := u_ws RX2 TX2 7
theorem nmX2 : ∀ a, a < 7 → ∀ b, b < 7 → a ≠ b → (TX2 a).2.1 ≠ (TX2 b).2.1 := by decide +kernel
theorem tyX2_ok : ∀ k, k < 7 → parseFieldDescriptor (TX2 k).2.2.1 = some (tyX2 k) := by decide +kernel
abbrev cX2_init : ByteArray := prog_4_method_1_code
def yX2_init : MethodName := ⟨RX2, "<init>", "()V"⟩
abbrev cX2_add : ByteArray := prog_4_method_2_code
def yX2_add : MethodName := ⟨RX2, "add", "(III)I"⟩
abbrev cX2_childOf : ByteArray := prog_4_method_3_code
def yX2_childOf : MethodName := ⟨RX2, "childOf", "(II)I"⟩
abbrev cX2_leastLabels : ByteArray := prog_4_method_4_code
def yX2_leastLabels : MethodName := ⟨RX2, "leastLabels", "(I)I"⟩
abbrev cX2_leastByChildren : ByteArray := prog_4_method_5_code
def yX2_leastByChildren : MethodName := ⟨RX2, "leastByChildren", "(I)I"⟩
abbrev cX2_leastOfChildren : ByteArray := prog_4_method_6_code
def yX2_leastOfChildren : MethodName := ⟨RX2, "leastOfChildren", "(I)I"⟩
abbrev cX2_sumOfChildren : ByteArray := prog_4_method_7_code
def yX2_sumOfChildren : MethodName := ⟨RX2, "sumOfChildren", "(I)I"⟩
abbrev cX2_countLevels : ByteArray := prog_4_method_8_code
def yX2_countLevels : MethodName := ⟨RX2, "countLevels", "()I"⟩
def RX3 : String := "ProcessMiner"
def TX3 : u_T := fun k => match k with
  | 0 => ("ProcessMiner", "buffer", "[I", true)
  | 1 => ("ProcessMiner", "buffered", "I", false)
  | 2 => ("ProcessMiner", "events", "[I", true)
  | 3 => ("ProcessMiner", "lengths", "[I", true)
  | 4 => ("ProcessMiner", "traceTimes", "[I", true)
  | 5 => ("ProcessMiner", "stored", "I", false)
  | 6 => ("ProcessMiner", "levels", "[LProcessMiner$Log;", true)
  | 7 => ("ProcessMiner", "tree", "LProcessMiner$Tree;", true)
  | 8 => ("ProcessMiner", "matcher", "LProcessMiner$Matcher;", true)
  | _ => ("ProcessMiner", "mined", "Z", false)
def tyX3 : Nat → FieldType := fun k => match k with
  | 0 => .array .int
  | 1 => .int
  | 2 => .array .int
  | 3 => .array .int
  | 4 => .array .int
  | 5 => .int
  | 6 => .array (.object "ProcessMiner$Log")
  | 7 => .object "ProcessMiner$Tree"
  | 8 => .object "ProcessMiner$Matcher"
  | _ => .boolean
abbrev wsX30 : List Cond := u_ws RX3 TX3 10
theorem nmX3 : ∀ a, a < 10 → ∀ b, b < 10 → a ≠ b → (TX3 a).2.1 ≠ (TX3 b).2.1 := by decide +kernel
theorem tyX3_ok : ∀ k, k < 10 → parseFieldDescriptor (TX3 k).2.2.1 = some (tyX3 k) := by decide +kernel
abbrev cX3_init : ByteArray := prog_1_method_1_code
def yX3_init : MethodName := ⟨RX3, "<init>", "()V"⟩
abbrev cX3_event : ByteArray := prog_1_method_2_code
def yX3_event : MethodName := ⟨RX3, "event", "(I)I"⟩
abbrev cX3_endTrace : ByteArray := prog_1_method_3_code
def yX3_endTrace : MethodName := ⟨RX3, "endTrace", "(I)I"⟩
abbrev cX3_setTimes : ByteArray := prog_1_method_4_code
def yX3_setTimes : MethodName := ⟨RX3, "setTimes", "(II)I"⟩
abbrev cX3_dropTrace : ByteArray := prog_1_method_5_code
def yX3_dropTrace : MethodName := ⟨RX3, "dropTrace", "()I"⟩
abbrev cX3_traceCount : ByteArray := prog_1_method_6_code
def yX3_traceCount : MethodName := ⟨RX3, "traceCount", "()I"⟩
abbrev cX3_length : ByteArray := prog_1_method_7_code
def yX3_length : MethodName := ⟨RX3, "length", "(I)I"⟩
abbrev cX3_labelAt : ByteArray := prog_1_method_8_code
def yX3_labelAt : MethodName := ⟨RX3, "labelAt", "(II)I"⟩
abbrev cX3_labels : ByteArray := prog_1_method_9_code
def yX3_labels : MethodName := ⟨RX3, "labels", "()I"⟩
abbrev cX3_follows : ByteArray := prog_1_method_10_code
def yX3_follows : MethodName := ⟨RX3, "follows", "(II)I"⟩
abbrev cX3_edges : ByteArray := prog_1_method_11_code
def yX3_edges : MethodName := ⟨RX3, "edges", "(Z)I"⟩
abbrev cX3_relation : ByteArray := prog_1_method_12_code
def yX3_relation : MethodName := ⟨RX3, "relation", "(II)I"⟩
abbrev cX3_leads : ByteArray := prog_1_method_13_code
def yX3_leads : MethodName := ⟨RX3, "leads", "(II)Z"⟩
abbrev cX3_variants : ByteArray := prog_1_method_14_code
def yX3_variants : MethodName := ⟨RX3, "variants", "()I"⟩
abbrev cX3_mine : ByteArray := prog_1_method_15_code
def yX3_mine : MethodName := ⟨RX3, "mine", "()I"⟩
abbrev cX3_kind : ByteArray := prog_1_method_16_code
def yX3_kind : MethodName := ⟨RX3, "kind", "(I)I"⟩
abbrev cX3_labelsOf : ByteArray := prog_1_method_17_code
def yX3_labelsOf : MethodName := ⟨RX3, "labelsOf", "(I)I"⟩
abbrev cX3_parent : ByteArray := prog_1_method_18_code
def yX3_parent : MethodName := ⟨RX3, "parent", "(I)I"⟩
abbrev cX3_children : ByteArray := prog_1_method_19_code
def yX3_children : MethodName := ⟨RX3, "children", "(I)I"⟩
abbrev cX3_child : ByteArray := prog_1_method_20_code
def yX3_child : MethodName := ⟨RX3, "child", "(II)I"⟩
abbrev cX3_shortest : ByteArray := prog_1_method_21_code
def yX3_shortest : MethodName := ⟨RX3, "shortest", "(I)I"⟩
abbrev cX3_height : ByteArray := prog_1_method_22_code
def yX3_height : MethodName := ⟨RX3, "height", "()I"⟩
abbrev cX3_accepts : ByteArray := prog_1_method_23_code
def yX3_accepts : MethodName := ⟨RX3, "accepts", "(I)Z"⟩
abbrev cX3_acceptsBuffer : ByteArray := prog_1_method_24_code
def yX3_acceptsBuffer : MethodName := ⟨RX3, "acceptsBuffer", "()Z"⟩
abbrev cX3_fitness : ByteArray := prog_1_method_25_code
def yX3_fitness : MethodName := ⟨RX3, "fitness", "()D"⟩
abbrev cX3_words : ByteArray := prog_1_method_26_code
def yX3_words : MethodName := ⟨RX3, "words", "(I)I"⟩
abbrev cX3_digest : ByteArray := prog_1_method_27_code
def yX3_digest : MethodName := ⟨RX3, "digest", "()J"⟩
abbrev cX3_checkLabel : ByteArray := prog_1_method_28_code
def yX3_checkLabel : MethodName := ⟨RX3, "checkLabel", "(I)V"⟩
abbrev cX3_checkTimes : ByteArray := prog_1_method_29_code
def yX3_checkTimes : MethodName := ⟨RX3, "checkTimes", "(I)V"⟩
abbrev cX3_checkTrace : ByteArray := prog_1_method_30_code
def yX3_checkTrace : MethodName := ⟨RX3, "checkTrace", "(I)V"⟩
abbrev cX3_checkMined : ByteArray := prog_1_method_31_code
def yX3_checkMined : MethodName := ⟨RX3, "checkMined", "()V"⟩
abbrev cX3_checkNode : ByteArray := prog_1_method_32_code
def yX3_checkNode : MethodName := ⟨RX3, "checkNode", "(I)V"⟩
abbrev cX3_contains : ByteArray := prog_1_method_33_code
def yX3_contains : MethodName := ⟨RX3, "contains", "(II)Z"⟩
abbrev cX3_countPairs : ByteArray := prog_1_method_34_code
def yX3_countPairs : MethodName := ⟨RX3, "countPairs", "(III)I"⟩
abbrev cX3_isRepeated : ByteArray := prog_1_method_35_code
def yX3_isRepeated : MethodName := ⟨RX3, "isRepeated", "(I)Z"⟩
abbrev cX3_isSame : ByteArray := prog_1_method_36_code
def yX3_isSame : MethodName := ⟨RX3, "isSame", "(II)Z"⟩
abbrev cX3_addTo : ByteArray := prog_1_method_37_code
def yX3_addTo : MethodName := ⟨RX3, "addTo", "(JI)J"⟩
abbrev cX3_digestRow : ByteArray := prog_1_method_38_code
def yX3_digestRow : MethodName := ⟨RX3, "digestRow", "(J[III)J"⟩
abbrev cX3_readLog : ByteArray := prog_1_method_39_code
def yX3_readLog : MethodName := ⟨RX3, "readLog", "()LProcessMiner$Log;"⟩
abbrev cX3_grow : ByteArray := prog_1_method_40_code
def yX3_grow : MethodName := ⟨RX3, "grow", "([LProcessMiner$Log;LProcessMiner$Tree;II)V"⟩
def RX4 : String := "ProcessMinerModel"
def TX4 : u_T := fun k => match k with
  | 0 => ("ProcessMinerModel", "thrown", "I", false)
  | 1 => ("ProcessMinerModel", "buffered", "I", false)
  | 2 => ("ProcessMinerModel", "buffer", "[I", true)
  | 3 => ("ProcessMinerModel", "traces", "I", false)
  | 4 => ("ProcessMinerModel", "times", "[I", true)
  | 5 => ("ProcessMinerModel", "lengths", "[I", true)
  | 6 => ("ProcessMinerModel", "text", "[I", true)
  | 7 => ("ProcessMinerModel", "isMined", "Z", false)
  | 8 => ("ProcessMinerModel", "nodes", "I", false)
  | 9 => ("ProcessMinerModel", "kinds", "[I", true)
  | 10 => ("ProcessMinerModel", "parents", "[I", true)
  | 11 => ("ProcessMinerModel", "sets", "[I", true)
  | _ => ("ProcessMinerModel", "word", "[I", true)
def tyX4 : Nat → FieldType := fun k => match k with
  | 0 => .int
  | 1 => .int
  | 2 => .array .int
  | 3 => .int
  | 4 => .array .int
  | 5 => .array .int
  | 6 => .array .int
  | 7 => .boolean
  | 8 => .int
  | 9 => .array .int
  | 10 => .array .int
  | 11 => .array .int
  | _ => .array .int
abbrev wsX40 : List Cond := u_ws RX4 TX4 13
theorem nmX4 : ∀ a, a < 13 → ∀ b, b < 13 → a ≠ b → (TX4 a).2.1 ≠ (TX4 b).2.1 := by decide +kernel
theorem tyX4_ok : ∀ k, k < 13 → parseFieldDescriptor (TX4 k).2.2.1 = some (tyX4 k) := by decide +kernel
abbrev cX4_init : ByteArray := prog_6_method_1_code
def yX4_init : MethodName := ⟨RX4, "<init>", "()V"⟩
abbrev cX4_thrown : ByteArray := prog_6_method_2_code
def yX4_thrown : MethodName := ⟨RX4, "thrown", "()I"⟩
abbrev cX4_fail : ByteArray := prog_6_method_3_code
def yX4_fail : MethodName := ⟨RX4, "fail", "(I)I"⟩
abbrev cX4_isLabel : ByteArray := prog_6_method_4_code
def yX4_isLabel : MethodName := ⟨RX4, "isLabel", "(I)Z"⟩
abbrev cX4_isTrace : ByteArray := prog_6_method_5_code
def yX4_isTrace : MethodName := ⟨RX4, "isTrace", "(I)Z"⟩
abbrev cX4_isTimes : ByteArray := prog_6_method_6_code
def yX4_isTimes : MethodName := ⟨RX4, "isTimes", "(I)Z"⟩
abbrev cX4_has : ByteArray := prog_6_method_7_code
def yX4_has : MethodName := ⟨RX4, "has", "(II)Z"⟩
abbrev cX4_event : ByteArray := prog_6_method_8_code
def yX4_event : MethodName := ⟨RX4, "event", "(I)I"⟩
abbrev cX4_endTrace : ByteArray := prog_6_method_9_code
def yX4_endTrace : MethodName := ⟨RX4, "endTrace", "(I)I"⟩
abbrev cX4_setTimes : ByteArray := prog_6_method_10_code
def yX4_setTimes : MethodName := ⟨RX4, "setTimes", "(II)I"⟩
abbrev cX4_dropTrace : ByteArray := prog_6_method_11_code
def yX4_dropTrace : MethodName := ⟨RX4, "dropTrace", "()I"⟩
abbrev cX4_traceCount : ByteArray := prog_6_method_12_code
def yX4_traceCount : MethodName := ⟨RX4, "traceCount", "()I"⟩
abbrev cX4_length : ByteArray := prog_6_method_13_code
def yX4_length : MethodName := ⟨RX4, "length", "(I)I"⟩
abbrev cX4_labelAt : ByteArray := prog_6_method_14_code
def yX4_labelAt : MethodName := ⟨RX4, "labelAt", "(II)I"⟩
abbrev cX4_labels : ByteArray := prog_6_method_15_code
def yX4_labels : MethodName := ⟨RX4, "labels", "()I"⟩
abbrev cX4_countOf : ByteArray := prog_6_method_16_code
def yX4_countOf : MethodName := ⟨RX4, "countOf", "(II)I"⟩
abbrev cX4_follows : ByteArray := prog_6_method_17_code
def yX4_follows : MethodName := ⟨RX4, "follows", "(II)I"⟩
abbrev cX4_edges : ByteArray := prog_6_method_18_code
def yX4_edges : MethodName := ⟨RX4, "edges", "(Z)I"⟩
abbrev cX4_relation : ByteArray := prog_6_method_19_code
def yX4_relation : MethodName := ⟨RX4, "relation", "(II)I"⟩
abbrev cX4_leads : ByteArray := prog_6_method_20_code
def yX4_leads : MethodName := ⟨RX4, "leads", "(II)Z"⟩
abbrev cX4_variants : ByteArray := prog_6_method_21_code
def yX4_variants : MethodName := ⟨RX4, "variants", "()I"⟩
abbrev cX4_labelsIn : ByteArray := prog_6_method_22_code
def yX4_labelsIn : MethodName := ⟨RX4, "labelsIn", "([[I)I"⟩
abbrev cX4_edgesIn : ByteArray := prog_6_method_23_code
def yX4_edgesIn : MethodName := ⟨RX4, "edgesIn", "([[IZ)I"⟩
abbrev cX4_followers : ByteArray := prog_6_method_24_code
def yX4_followers : MethodName := ⟨RX4, "followers", "([[I)[I"⟩
abbrev cX4_parts : ByteArray := prog_6_method_25_code
def yX4_parts : MethodName := ⟨RX4, "parts", "(I[I)[I"⟩
abbrev cX4_only : ByteArray := prog_6_method_26_code
def yX4_only : MethodName := ⟨RX4, "only", "([[IIZ)[[I"⟩
abbrev cX4_shortened : ByteArray := prog_6_method_27_code
def yX4_shortened : MethodName := ⟨RX4, "shortened", "([[II)[[I"⟩
abbrev cX4_pieces : ByteArray := prog_6_method_28_code
def yX4_pieces : MethodName := ⟨RX4, "pieces", "([[II)[[I"⟩
abbrev cX4_add : ByteArray := prog_6_method_29_code
def yX4_add : MethodName := ⟨RX4, "add", "(III)I"⟩
abbrev cX4_mineInto : ByteArray := prog_6_method_30_code
def yX4_mineInto : MethodName := ⟨RX4, "mineInto", "([[II)V"⟩
abbrev cX4_mineChoice : ByteArray := prog_6_method_31_code
def yX4_mineChoice : MethodName := ⟨RX4, "mineChoice", "([[II[II)Z"⟩
abbrev cX4_mineOrder : ByteArray := prog_6_method_32_code
def yX4_mineOrder : MethodName := ⟨RX4, "mineOrder", "([[II[II)Z"⟩
abbrev cX4_mineBoth : ByteArray := prog_6_method_33_code
def yX4_mineBoth : MethodName := ⟨RX4, "mineBoth", "([[II[II)Z"⟩
abbrev cX4_mineAgain : ByteArray := prog_6_method_34_code
def yX4_mineAgain : MethodName := ⟨RX4, "mineAgain", "([[II[II)Z"⟩
abbrev cX4_belongs : ByteArray := prog_6_method_35_code
def yX4_belongs : MethodName := ⟨RX4, "belongs", "(IIII[I)Z"⟩
abbrev cX4_mine : ByteArray := prog_6_method_36_code
def yX4_mine : MethodName := ⟨RX4, "mine", "()I"⟩
abbrev cX4_asks : ByteArray := prog_6_method_37_code
def yX4_asks : MethodName := ⟨RX4, "asks", "(II)Z"⟩
abbrev cX4_kind : ByteArray := prog_6_method_38_code
def yX4_kind : MethodName := ⟨RX4, "kind", "(I)I"⟩
abbrev cX4_labelsOf : ByteArray := prog_6_method_39_code
def yX4_labelsOf : MethodName := ⟨RX4, "labelsOf", "(I)I"⟩
abbrev cX4_parent : ByteArray := prog_6_method_40_code
def yX4_parent : MethodName := ⟨RX4, "parent", "(I)I"⟩
abbrev cX4_childCount : ByteArray := prog_6_method_41_code
def yX4_childCount : MethodName := ⟨RX4, "childCount", "(I)I"⟩
abbrev cX4_childOf : ByteArray := prog_6_method_42_code
def yX4_childOf : MethodName := ⟨RX4, "childOf", "(II)I"⟩
abbrev cX4_children : ByteArray := prog_6_method_43_code
def yX4_children : MethodName := ⟨RX4, "children", "(I)I"⟩
abbrev cX4_child : ByteArray := prog_6_method_44_code
def yX4_child : MethodName := ⟨RX4, "child", "(II)I"⟩
abbrev cX4_shortestOf : ByteArray := prog_6_method_45_code
def yX4_shortestOf : MethodName := ⟨RX4, "shortestOf", "(I)I"⟩
abbrev cX4_shortest : ByteArray := prog_6_method_46_code
def yX4_shortest : MethodName := ⟨RX4, "shortest", "(I)I"⟩
abbrev cX4_height : ByteArray := prog_6_method_47_code
def yX4_height : MethodName := ⟨RX4, "height", "()I"⟩
abbrev cX4_placesOf : ByteArray := prog_6_method_48_code
def yX4_placesOf : MethodName := ⟨RX4, "placesOf", "(II)I"⟩
abbrev cX4_until : ByteArray := prog_6_method_49_code
def yX4_until : MethodName := ⟨RX4, "until", "(II)I"⟩
abbrev cX4_isCut : ByteArray := prog_6_method_50_code
def yX4_isCut : MethodName := ⟨RX4, "isCut", "(II)Z"⟩
abbrev cX4_isWord : ByteArray := prog_6_method_51_code
def yX4_isWord : MethodName := ⟨RX4, "isWord", "(II)Z"⟩
abbrev cX4_areWords : ByteArray := prog_6_method_52_code
def yX4_areWords : MethodName := ⟨RX4, "areWords", "(II)Z"⟩
abbrev cX4_isOrder : ByteArray := prog_6_method_53_code
def yX4_isOrder : MethodName := ⟨RX4, "isOrder", "(III)Z"⟩
abbrev cX4_isAgain : ByteArray := prog_6_method_54_code
def yX4_isAgain : MethodName := ⟨RX4, "isAgain", "(II)Z"⟩
abbrev cX4_goesOn : ByteArray := prog_6_method_55_code
def yX4_goesOn : MethodName := ⟨RX4, "goesOn", "(III)Z"⟩
abbrev cX4_isTraceWord : ByteArray := prog_6_method_56_code
def yX4_isTraceWord : MethodName := ⟨RX4, "isTraceWord", "(I)Z"⟩
abbrev cX4_accepts : ByteArray := prog_6_method_57_code
def yX4_accepts : MethodName := ⟨RX4, "accepts", "(I)Z"⟩
abbrev cX4_acceptsBuffer : ByteArray := prog_6_method_58_code
def yX4_acceptsBuffer : MethodName := ⟨RX4, "acceptsBuffer", "()Z"⟩
abbrev cX4_fitness : ByteArray := prog_6_method_59_code
def yX4_fitness : MethodName := ⟨RX4, "fitness", "()D"⟩
abbrev cX4_words : ByteArray := prog_6_method_60_code
def yX4_words : MethodName := ⟨RX4, "words", "(I)I"⟩
abbrev cX4_digest : ByteArray := prog_6_method_61_code
def yX4_digest : MethodName := ⟨RX4, "digest", "()J"⟩
def RJx8e188 : String := "java/lang/Cloneable"
def TJx8e188 : u_T := fun k => match k with
  | _ => ("", "", "", false)
def tyJx8e188 : Nat → FieldType := fun k => match k with
  | _ => .int
abbrev wsJx8e1880 : List Cond := u_ws RJx8e188 TJx8e188 0
theorem nmJx8e188 : ∀ a, a < 0 → ∀ b, b < 0 → a ≠ b → (TJx8e188 a).2.1 ≠ (TJx8e188 b).2.1 := by decide +kernel
theorem tyJx8e188_ok : ∀ k, k < 0 → parseFieldDescriptor (TJx8e188 k).2.2.1 = some (tyJx8e188 k) := by decide +kernel
def RJ6 : String := "java/lang/Integer"
def TJ6 : u_T := fun k => match k with
  | _ => ("", "", "", false)
def tyJ6 : Nat → FieldType := fun k => match k with
  | _ => .int
abbrev wsJ60 : List Cond := u_ws RJ6 TJ6 0
theorem nmJ6 : ∀ a, a < 0 → ∀ b, b < 0 → a ≠ b → (TJ6 a).2.1 ≠ (TJ6 b).2.1 := by decide +kernel
theorem tyJ6_ok : ∀ k, k < 0 → parseFieldDescriptor (TJ6 k).2.2.1 = some (tyJ6 k) := by decide +kernel
abbrev cJ6_lowestOneBit_0f7a4 : ByteArray := prog_12_method_46_code
def yJ6_lowestOneBit_0f7a4 : MethodName := ⟨RJ6, "lowestOneBit", "(I)I"⟩
abbrev cJ6_numberOfTrailingZeros_0f7a4 : ByteArray := prog_12_method_48_code
def yJ6_numberOfTrailingZeros_0f7a4 : MethodName := ⟨RJ6, "numberOfTrailingZeros", "(I)I"⟩
abbrev cJ6_bitCount_0f7a4 : ByteArray := prog_12_method_49_code
def yJ6_bitCount_0f7a4 : MethodName := ⟨RJ6, "bitCount", "(I)I"⟩
def RJ9 : String := "java/lang/Math"
def TJ9 : u_T := fun k => match k with
  | _ => ("", "", "", false)
def tyJ9 : Nat → FieldType := fun k => match k with
  | _ => .int
abbrev wsJ90 : List Cond := u_ws RJ9 TJ9 0
theorem nmJ9 : ∀ a, a < 0 → ∀ b, b < 0 → a ≠ b → (TJ9 a).2.1 ≠ (TJ9 b).2.1 := by decide +kernel
theorem tyJ9_ok : ∀ k, k < 0 → parseFieldDescriptor (TJ9 k).2.2.1 = some (tyJ9 k) := by decide +kernel
abbrev cJ9_max_7cf53 : ByteArray := prog_13_method_65_code
def yJ9_max_7cf53 : MethodName := ⟨RJ9, "max", "(II)I"⟩
abbrev cJ9_min_7cf53 : ByteArray := prog_13_method_69_code
def yJ9_min_7cf53 : MethodName := ⟨RJ9, "min", "(II)I"⟩
def RJ0 : String := "java/lang/String"
def TJ0 : u_T := fun k => match k with
  | _ => ("", "", "", false)
def tyJ0 : Nat → FieldType := fun k => match k with
  | _ => .int
abbrev wsJ00 : List Cond := u_ws RJ0 TJ0 0
theorem nmJ0 : ∀ a, a < 0 → ∀ b, b < 0 → a ≠ b → (TJ0 a).2.1 ≠ (TJ0 b).2.1 := by decide +kernel
theorem tyJ0_ok : ∀ k, k < 0 → parseFieldDescriptor (TJ0 k).2.2.1 = some (tyJ0 k) := by decide +kernel
def RJ10 : String := "java/lang/System"
def TJ10 : u_T := fun k => match k with
  | _ => ("", "", "", false)
def tyJ10 : Nat → FieldType := fun k => match k with
  | _ => .int
abbrev wsJ100 : List Cond := u_ws RJ10 TJ10 0
theorem nmJ10 : ∀ a, a < 0 → ∀ b, b < 0 → a ≠ b → (TJ10 a).2.1 ≠ (TJ10 b).2.1 := by decide +kernel
theorem tyJ10_ok : ∀ k, k < 0 → parseFieldDescriptor (TJ10 k).2.2.1 = some (tyJ10 k) := by decide +kernel
def RL : String := "ProcessMinerLaw"
abbrev cL_event : ByteArray := method_3_code
def yL_event : MethodName := ⟨RL, "event", "(LProcessMiner;I[J)I"⟩
abbrev cL_endTrace : ByteArray := method_4_code
def yL_endTrace : MethodName := ⟨RL, "endTrace", "(LProcessMiner;I[J)I"⟩
abbrev cL_setTimes : ByteArray := method_5_code
def yL_setTimes : MethodName := ⟨RL, "setTimes", "(LProcessMiner;II[J)I"⟩
abbrev cL_dropTrace : ByteArray := method_6_code
def yL_dropTrace : MethodName := ⟨RL, "dropTrace", "(LProcessMiner;[J)I"⟩
abbrev cL_length : ByteArray := method_7_code
def yL_length : MethodName := ⟨RL, "length", "(LProcessMiner;I[J)I"⟩
abbrev cL_labelAt : ByteArray := method_8_code
def yL_labelAt : MethodName := ⟨RL, "labelAt", "(LProcessMiner;II[J)I"⟩
abbrev cL_follows : ByteArray := method_9_code
def yL_follows : MethodName := ⟨RL, "follows", "(LProcessMiner;II[J)I"⟩
abbrev cL_relation : ByteArray := method_10_code
def yL_relation : MethodName := ⟨RL, "relation", "(LProcessMiner;II[J)I"⟩
abbrev cL_leads : ByteArray := method_11_code
def yL_leads : MethodName := ⟨RL, "leads", "(LProcessMiner;II[J)I"⟩
abbrev cL_kind : ByteArray := method_12_code
def yL_kind : MethodName := ⟨RL, "kind", "(LProcessMiner;I[J)I"⟩
abbrev cL_labelsOf : ByteArray := method_13_code
def yL_labelsOf : MethodName := ⟨RL, "labelsOf", "(LProcessMiner;I[J)I"⟩
abbrev cL_parent : ByteArray := method_14_code
def yL_parent : MethodName := ⟨RL, "parent", "(LProcessMiner;I[J)I"⟩
abbrev cL_children : ByteArray := method_15_code
def yL_children : MethodName := ⟨RL, "children", "(LProcessMiner;I[J)I"⟩
abbrev cL_child : ByteArray := method_16_code
def yL_child : MethodName := ⟨RL, "child", "(LProcessMiner;II[J)I"⟩
abbrev cL_shortest : ByteArray := method_17_code
def yL_shortest : MethodName := ⟨RL, "shortest", "(LProcessMiner;I[J)I"⟩
abbrev cL_height : ByteArray := method_18_code
def yL_height : MethodName := ⟨RL, "height", "(LProcessMiner;[J)I"⟩
abbrev cL_accepts : ByteArray := method_19_code
def yL_accepts : MethodName := ⟨RL, "accepts", "(LProcessMiner;I[J)I"⟩
abbrev cL_acceptsBuffer : ByteArray := method_20_code
def yL_acceptsBuffer : MethodName := ⟨RL, "acceptsBuffer", "(LProcessMiner;[J)I"⟩
abbrev cL_fitness : ByteArray := method_21_code
def yL_fitness : MethodName := ⟨RL, "fitness", "(LProcessMiner;[D)I"⟩
abbrev cL_words : ByteArray := method_22_code
def yL_words : MethodName := ⟨RL, "words", "(LProcessMiner;I[J)I"⟩
abbrev cL_law : ByteArray := code
def yL_law : MethodName := ⟨RL, "law", "([I)Z"⟩
abbrev vwCl : List vw_C := [(RX0, TX0, 13), (RX1, TX1, 4), (RX2, TX2, 7), (RX3, TX3, 10), (RX4, TX4, 13)]
end
section
theorem dX0_init_0 : decode cX0_init 0 = .ok (.aload_n 0, 1) := by decide +kernel
theorem dX0_init_1 : decode cX0_init 1 = .ok (.invokespecial 3, 3) := by decide +kernel
theorem dX0_init_4 : decode cX0_init 4 = .ok (.aload_n 0, 1) := by decide +kernel
theorem dX0_init_5 : decode cX0_init 5 = .ok (.bipush 120, 2) := by decide +kernel
theorem dX0_init_7 : decode cX0_init 7 = .ok (.newarray .int, 2) := by decide +kernel
theorem dX0_init_9 : decode cX0_init 9 = .ok (.putfield 9, 3) := by decide +kernel
theorem dX0_init_12 : decode cX0_init 12 = .ok (.aload_n 0, 1) := by decide +kernel
theorem dX0_init_13 : decode cX0_init 13 = .ok (.bipush 120, 2) := by decide +kernel
theorem dX0_init_15 : decode cX0_init 15 = .ok (.newarray .int, 2) := by decide +kernel
theorem dX0_init_17 : decode cX0_init 17 = .ok (.putfield 15, 3) := by decide +kernel
theorem dX0_init_20 : decode cX0_init 20 = .ok (.aload_n 0, 1) := by decide +kernel
theorem dX0_init_21 : decode cX0_init 21 = .ok (.iconst 0, 1) := by decide +kernel
theorem dX0_init_22 : decode cX0_init 22 = .ok (.putfield 18, 3) := by decide +kernel
theorem dX0_init_25 : decode cX0_init 25 = .ok (.aload_n 0, 1) := by decide +kernel
theorem dX0_init_26 : decode cX0_init 26 = .ok (.iconst 0, 1) := by decide +kernel
theorem dX0_init_27 : decode cX0_init 27 = .ok (.putfield 22, 3) := by decide +kernel
theorem dX0_init_30 : decode cX0_init 30 = .ok (.aload_n 0, 1) := by decide +kernel
theorem dX0_init_31 : decode cX0_init 31 = .ok (.iconst 0, 1) := by decide +kernel
theorem dX0_init_32 : decode cX0_init 32 = .ok (.putfield 25, 3) := by decide +kernel
theorem dX0_init_35 : decode cX0_init 35 = .ok (.aload_n 0, 1) := by decide +kernel
theorem dX0_init_36 : decode cX0_init 36 = .ok (.iconst 0, 1) := by decide +kernel
theorem dX0_init_37 : decode cX0_init 37 = .ok (.putfield 28, 3) := by decide +kernel
theorem dX0_init_40 : decode cX0_init 40 = .ok (.aload_n 0, 1) := by decide +kernel
theorem dX0_init_41 : decode cX0_init 41 = .ok (.iconst 0, 1) := by decide +kernel
theorem dX0_init_42 : decode cX0_init 42 = .ok (.putfield 31, 3) := by decide +kernel
theorem dX0_init_45 : decode cX0_init 45 = .ok (.aload_n 0, 1) := by decide +kernel
theorem dX0_init_46 : decode cX0_init 46 = .ok (.iconst 0, 1) := by decide +kernel
theorem dX0_init_47 : decode cX0_init 47 = .ok (.putfield 34, 3) := by decide +kernel
theorem dX0_init_50 : decode cX0_init 50 = .ok (.aload_n 0, 1) := by decide +kernel
theorem dX0_init_51 : decode cX0_init 51 = .ok (.bipush 8, 2) := by decide +kernel
theorem dX0_init_53 : decode cX0_init 53 = .ok (.newarray .int, 2) := by decide +kernel
theorem dX0_init_55 : decode cX0_init 55 = .ok (.putfield 38, 3) := by decide +kernel
theorem dX0_init_58 : decode cX0_init 58 = .ok (.aload_n 0, 1) := by decide +kernel
theorem dX0_init_59 : decode cX0_init 59 = .ok (.bipush 8, 2) := by decide +kernel
theorem dX0_init_61 : decode cX0_init 61 = .ok (.newarray .int, 2) := by decide +kernel
theorem dX0_init_63 : decode cX0_init 63 = .ok (.putfield 41, 3) := by decide +kernel
theorem dX0_init_66 : decode cX0_init 66 = .ok (.aload_n 0, 1) := by decide +kernel
theorem dX0_init_67 : decode cX0_init 67 = .ok (.bipush 8, 2) := by decide +kernel
theorem dX0_init_69 : decode cX0_init 69 = .ok (.newarray .int, 2) := by decide +kernel
theorem dX0_init_71 : decode cX0_init 71 = .ok (.putfield 44, 3) := by decide +kernel
theorem dX0_init_74 : decode cX0_init 74 = .ok (.aload_n 0, 1) := by decide +kernel
theorem dX0_init_75 : decode cX0_init 75 = .ok (.bipush 8, 2) := by decide +kernel
theorem dX0_init_77 : decode cX0_init 77 = .ok (.newarray .int, 2) := by decide +kernel
theorem dX0_init_79 : decode cX0_init 79 = .ok (.putfield 47, 3) := by decide +kernel
theorem dX0_init_82 : decode cX0_init 82 = .ok (.aload_n 0, 1) := by decide +kernel
theorem dX0_init_83 : decode cX0_init 83 = .ok (.iconst 0, 1) := by decide +kernel
theorem dX0_init_84 : decode cX0_init 84 = .ok (.putfield 50, 3) := by decide +kernel
theorem dX0_init_87 : decode cX0_init 87 = .ok (.return_, 1) := by decide +kernel
theorem dX0_clear_0 : decode cX0_clear 0 = .ok (.aload_n 0, 1) := by decide +kernel
theorem dX0_clear_1 : decode cX0_clear 1 = .ok (.iconst 0, 1) := by decide +kernel
theorem dX0_clear_2 : decode cX0_clear 2 = .ok (.putfield 18, 3) := by decide +kernel
theorem dX0_clear_5 : decode cX0_clear 5 = .ok (.aload_n 0, 1) := by decide +kernel
theorem dX0_clear_6 : decode cX0_clear 6 = .ok (.iconst 0, 1) := by decide +kernel
theorem dX0_clear_7 : decode cX0_clear 7 = .ok (.putfield 22, 3) := by decide +kernel
theorem dX0_clear_10 : decode cX0_clear 10 = .ok (.return_, 1) := by decide +kernel
theorem dX0_append_0 : decode cX0_append 0 = .ok (.aload_n 0, 1) := by decide +kernel
theorem dX0_append_1 : decode cX0_append 1 = .ok (.getfield 18, 3) := by decide +kernel
theorem dX0_append_4 : decode cX0_append 4 = .ok (.aload_n 0, 1) := by decide +kernel
theorem dX0_append_5 : decode cX0_append 5 = .ok (.getfield 9, 3) := by decide +kernel
theorem dX0_append_8 : decode cX0_append 8 = .ok (.arraylength, 1) := by decide +kernel
theorem dX0_append_9 : decode cX0_append 9 = .ok (.if_icmp .ge 23, 3) := by decide +kernel
theorem dX0_append_12 : decode cX0_append 12 = .ok (.aload_n 0, 1) := by decide +kernel
theorem dX0_append_13 : decode cX0_append 13 = .ok (.getfield 9, 3) := by decide +kernel
theorem dX0_append_16 : decode cX0_append 16 = .ok (.aload_n 0, 1) := by decide +kernel
theorem dX0_append_17 : decode cX0_append 17 = .ok (.getfield 18, 3) := by decide +kernel
theorem dX0_append_20 : decode cX0_append 20 = .ok (.iload_n 1, 1) := by decide +kernel
theorem dX0_append_21 : decode cX0_append 21 = .ok (.iastore, 1) := by decide +kernel
theorem dX0_append_22 : decode cX0_append 22 = .ok (.aload_n 0, 1) := by decide +kernel
theorem dX0_append_23 : decode cX0_append 23 = .ok (.dup, 1) := by decide +kernel
theorem dX0_append_24 : decode cX0_append 24 = .ok (.getfield 18, 3) := by decide +kernel
theorem dX0_append_27 : decode cX0_append 27 = .ok (.iconst 1, 1) := by decide +kernel
theorem dX0_append_28 : decode cX0_append 28 = .ok (.iadd, 1) := by decide +kernel
theorem dX0_append_29 : decode cX0_append 29 = .ok (.putfield 18, 3) := by decide +kernel
theorem dX0_append_32 : decode cX0_append 32 = .ok (.return_, 1) := by decide +kernel
theorem dX0_closeTrace_0 : decode cX0_closeTrace 0 = .ok (.aload_n 0, 1) := by decide +kernel
theorem dX0_closeTrace_1 : decode cX0_closeTrace 1 = .ok (.getfield 22, 3) := by decide +kernel
theorem dX0_closeTrace_4 : decode cX0_closeTrace 4 = .ok (.aload_n 0, 1) := by decide +kernel
theorem dX0_closeTrace_5 : decode cX0_closeTrace 5 = .ok (.getfield 15, 3) := by decide +kernel
theorem dX0_closeTrace_8 : decode cX0_closeTrace 8 = .ok (.arraylength, 1) := by decide +kernel
theorem dX0_closeTrace_9 : decode cX0_closeTrace 9 = .ok (.if_icmp .ge 26, 3) := by decide +kernel
theorem dX0_closeTrace_12 : decode cX0_closeTrace 12 = .ok (.aload_n 0, 1) := by decide +kernel
theorem dX0_closeTrace_13 : decode cX0_closeTrace 13 = .ok (.getfield 15, 3) := by decide +kernel
theorem dX0_closeTrace_16 : decode cX0_closeTrace 16 = .ok (.aload_n 0, 1) := by decide +kernel
theorem dX0_closeTrace_17 : decode cX0_closeTrace 17 = .ok (.getfield 22, 3) := by decide +kernel
theorem dX0_closeTrace_20 : decode cX0_closeTrace 20 = .ok (.aload_n 0, 1) := by decide +kernel
theorem dX0_closeTrace_21 : decode cX0_closeTrace 21 = .ok (.getfield 18, 3) := by decide +kernel
theorem dX0_closeTrace_24 : decode cX0_closeTrace 24 = .ok (.iastore, 1) := by decide +kernel
theorem dX0_closeTrace_25 : decode cX0_closeTrace 25 = .ok (.aload_n 0, 1) := by decide +kernel
theorem dX0_closeTrace_26 : decode cX0_closeTrace 26 = .ok (.dup, 1) := by decide +kernel
theorem dX0_closeTrace_27 : decode cX0_closeTrace 27 = .ok (.getfield 22, 3) := by decide +kernel
theorem dX0_closeTrace_30 : decode cX0_closeTrace 30 = .ok (.iconst 1, 1) := by decide +kernel
theorem dX0_closeTrace_31 : decode cX0_closeTrace 31 = .ok (.iadd, 1) := by decide +kernel
theorem dX0_closeTrace_32 : decode cX0_closeTrace 32 = .ok (.putfield 22, 3) := by decide +kernel
theorem dX0_closeTrace_35 : decode cX0_closeTrace 35 = .ok (.return_, 1) := by decide +kernel
theorem dX0_openStart_0 : decode cX0_openStart 0 = .ok (.aload_n 0, 1) := by decide +kernel
theorem dX0_openStart_1 : decode cX0_openStart 1 = .ok (.getfield 22, 3) := by decide +kernel
theorem dX0_openStart_4 : decode cX0_openStart 4 = .ok (.ifCond .le 17, 3) := by decide +kernel
theorem dX0_openStart_7 : decode cX0_openStart 7 = .ok (.aload_n 0, 1) := by decide +kernel
theorem dX0_openStart_8 : decode cX0_openStart 8 = .ok (.getfield 15, 3) := by decide +kernel
theorem dX0_openStart_11 : decode cX0_openStart 11 = .ok (.aload_n 0, 1) := by decide +kernel
theorem dX0_openStart_12 : decode cX0_openStart 12 = .ok (.getfield 22, 3) := by decide +kernel
theorem dX0_openStart_15 : decode cX0_openStart 15 = .ok (.iconst 1, 1) := by decide +kernel
theorem dX0_openStart_16 : decode cX0_openStart 16 = .ok (.isub, 1) := by decide +kernel
theorem dX0_openStart_17 : decode cX0_openStart 17 = .ok (.iaload, 1) := by decide +kernel
theorem dX0_openStart_18 : decode cX0_openStart 18 = .ok (.goto 4, 3) := by decide +kernel
theorem dX0_openStart_21 : decode cX0_openStart 21 = .ok (.iconst 0, 1) := by decide +kernel
theorem dX0_openStart_22 : decode cX0_openStart 22 = .ok (.ireturn, 1) := by decide +kernel
theorem dX0_take_0 : decode cX0_take 0 = .ok (.iload_n 3, 1) := by decide +kernel
theorem dX0_take_1 : decode cX0_take 1 = .ok (.iconst 3, 1) := by decide +kernel
theorem dX0_take_2 : decode cX0_take 2 = .ok (.if_icmp .eq 8, 3) := by decide +kernel
theorem dX0_take_5 : decode cX0_take 5 = .ok (.iload_n 3, 1) := by decide +kernel
theorem dX0_take_6 : decode cX0_take 6 = .ok (.iconst 4, 1) := by decide +kernel
theorem dX0_take_7 : decode cX0_take 7 = .ok (.if_icmp .ne 7, 3) := by decide +kernel
theorem dX0_take_10 : decode cX0_take 10 = .ok (.iconst 1, 1) := by decide +kernel
theorem dX0_take_11 : decode cX0_take 11 = .ok (.goto 4, 3) := by decide +kernel
theorem dX0_take_14 : decode cX0_take 14 = .ok (.iconst 0, 1) := by decide +kernel
theorem dX0_take_15 : decode cX0_take 15 = .ok (.istore 4, 2) := by decide +kernel
theorem dX0_take_17 : decode cX0_take 17 = .ok (.aload_n 0, 1) := by decide +kernel
theorem dX0_take_18 : decode cX0_take 18 = .ok (.invokevirtual 53, 3) := by decide +kernel
theorem dX0_take_21 : decode cX0_take 21 = .ok (.iconst 0, 1) := by decide +kernel
theorem dX0_take_22 : decode cX0_take 22 = .ok (.istore 5, 2) := by decide +kernel
theorem dX0_take_24 : decode cX0_take 24 = .ok (.iconst 0, 1) := by decide +kernel
theorem dX0_take_25 : decode cX0_take 25 = .ok (.istore 6, 2) := by decide +kernel
theorem dX0_take_27 : decode cX0_take 27 = .ok (.iload 6, 2) := by decide +kernel
theorem dX0_take_29 : decode cX0_take 29 = .ok (.aload_n 1, 1) := by decide +kernel
theorem dX0_take_30 : decode cX0_take 30 = .ok (.getfield 22, 3) := by decide +kernel
theorem dX0_take_33 : decode cX0_take 33 = .ok (.if_icmp .ge 63, 3) := by decide +kernel
theorem dX0_take_36 : decode cX0_take 36 = .ok (.aload_n 0, 1) := by decide +kernel
theorem dX0_take_37 : decode cX0_take 37 = .ok (.aload_n 1, 1) := by decide +kernel
theorem dX0_take_38 : decode cX0_take 38 = .ok (.iload 5, 2) := by decide +kernel
theorem dX0_take_40 : decode cX0_take 40 = .ok (.aload_n 1, 1) := by decide +kernel
theorem dX0_take_41 : decode cX0_take 41 = .ok (.getfield 15, 3) := by decide +kernel
theorem dX0_take_44 : decode cX0_take 44 = .ok (.iload 6, 2) := by decide +kernel
theorem dX0_take_46 : decode cX0_take 46 = .ok (.iaload, 1) := by decide +kernel
theorem dX0_take_47 : decode cX0_take 47 = .ok (.iload_n 2, 1) := by decide +kernel
theorem dX0_take_48 : decode cX0_take 48 = .ok (.iload_n 3, 1) := by decide +kernel
theorem dX0_take_49 : decode cX0_take 49 = .ok (.iconst 5, 1) := by decide +kernel
theorem dX0_take_50 : decode cX0_take 50 = .ok (.if_icmp .ne 7, 3) := by decide +kernel
theorem dX0_take_53 : decode cX0_take 53 = .ok (.iconst 1, 1) := by decide +kernel
theorem dX0_take_54 : decode cX0_take 54 = .ok (.goto 4, 3) := by decide +kernel
theorem dX0_take_57 : decode cX0_take 57 = .ok (.iconst 0, 1) := by decide +kernel
theorem dX0_take_58 : decode cX0_take 58 = .ok (.invokevirtual 56, 3) := by decide +kernel
theorem dX0_take_61 : decode cX0_take 61 = .ok (.iload 4, 2) := by decide +kernel
theorem dX0_take_63 : decode cX0_take 63 = .ok (.ifCond .ne 14, 3) := by decide +kernel
theorem dX0_take_66 : decode cX0_take 66 = .ok (.aload_n 0, 1) := by decide +kernel
theorem dX0_take_67 : decode cX0_take 67 = .ok (.getfield 18, 3) := by decide +kernel
theorem dX0_take_70 : decode cX0_take 70 = .ok (.aload_n 0, 1) := by decide +kernel
theorem dX0_take_71 : decode cX0_take 71 = .ok (.invokevirtual 60, 3) := by decide +kernel
theorem dX0_take_74 : decode cX0_take 74 = .ok (.if_icmp .le 7, 3) := by decide +kernel
theorem dX0_take_77 : decode cX0_take 77 = .ok (.aload_n 0, 1) := by decide +kernel
theorem dX0_take_78 : decode cX0_take 78 = .ok (.invokevirtual 64, 3) := by decide +kernel
theorem dX0_take_81 : decode cX0_take 81 = .ok (.aload_n 1, 1) := by decide +kernel
theorem dX0_take_82 : decode cX0_take 82 = .ok (.getfield 15, 3) := by decide +kernel
theorem dX0_take_85 : decode cX0_take 85 = .ok (.iload 6, 2) := by decide +kernel
theorem dX0_take_87 : decode cX0_take 87 = .ok (.iaload, 1) := by decide +kernel
theorem dX0_take_88 : decode cX0_take 88 = .ok (.istore 5, 2) := by decide +kernel
theorem dX0_take_90 : decode cX0_take 90 = .ok (.iinc 6 1, 3) := by decide +kernel
theorem dX0_take_93 : decode cX0_take 93 = .ok (.goto (-66), 3) := by decide +kernel
theorem dX0_take_96 : decode cX0_take 96 = .ok (.aload_n 0, 1) := by decide +kernel
theorem dX0_take_97 : decode cX0_take 97 = .ok (.invokevirtual 67, 3) := by decide +kernel
theorem dX0_take_100 : decode cX0_take 100 = .ok (.return_, 1) := by decide +kernel
theorem dX0_takeTrace_0 : decode cX0_takeTrace 0 = .ok (.iload_n 2, 1) := by decide +kernel
theorem dX0_takeTrace_1 : decode cX0_takeTrace 1 = .ok (.istore 6, 2) := by decide +kernel
theorem dX0_takeTrace_3 : decode cX0_takeTrace 3 = .ok (.iload 6, 2) := by decide +kernel
theorem dX0_takeTrace_5 : decode cX0_takeTrace 5 = .ok (.iload_n 3, 1) := by decide +kernel
theorem dX0_takeTrace_6 : decode cX0_takeTrace 6 = .ok (.if_icmp .ge 58, 3) := by decide +kernel
theorem dX0_takeTrace_9 : decode cX0_takeTrace 9 = .ok (.iload 4, 2) := by decide +kernel
theorem dX0_takeTrace_11 : decode cX0_takeTrace 11 = .ok (.aload_n 1, 1) := by decide +kernel
theorem dX0_takeTrace_12 : decode cX0_takeTrace 12 = .ok (.getfield 9, 3) := by decide +kernel
theorem dX0_takeTrace_15 : decode cX0_takeTrace 15 = .ok (.iload 6, 2) := by decide +kernel
theorem dX0_takeTrace_17 : decode cX0_takeTrace 17 = .ok (.iaload, 1) := by decide +kernel
theorem dX0_takeTrace_18 : decode cX0_takeTrace 18 = .ok (.invokestatic 70, 3) := by decide +kernel
theorem dX0_takeTrace_21 : decode cX0_takeTrace 21 = .ok (.ifCond .eq 17, 3) := by decide +kernel
theorem dX0_takeTrace_24 : decode cX0_takeTrace 24 = .ok (.aload_n 0, 1) := by decide +kernel
theorem dX0_takeTrace_25 : decode cX0_takeTrace 25 = .ok (.aload_n 1, 1) := by decide +kernel
theorem dX0_takeTrace_26 : decode cX0_takeTrace 26 = .ok (.getfield 9, 3) := by decide +kernel
theorem dX0_takeTrace_29 : decode cX0_takeTrace 29 = .ok (.iload 6, 2) := by decide +kernel
theorem dX0_takeTrace_31 : decode cX0_takeTrace 31 = .ok (.iaload, 1) := by decide +kernel
theorem dX0_takeTrace_32 : decode cX0_takeTrace 32 = .ok (.invokevirtual 74, 3) := by decide +kernel
theorem dX0_takeTrace_35 : decode cX0_takeTrace 35 = .ok (.goto 23, 3) := by decide +kernel
theorem dX0_takeTrace_38 : decode cX0_takeTrace 38 = .ok (.iload 5, 2) := by decide +kernel
theorem dX0_takeTrace_40 : decode cX0_takeTrace 40 = .ok (.ifCond .eq 18, 3) := by decide +kernel
theorem dX0_takeTrace_43 : decode cX0_takeTrace 43 = .ok (.aload_n 0, 1) := by decide +kernel
theorem dX0_takeTrace_44 : decode cX0_takeTrace 44 = .ok (.getfield 18, 3) := by decide +kernel
theorem dX0_takeTrace_47 : decode cX0_takeTrace 47 = .ok (.aload_n 0, 1) := by decide +kernel
theorem dX0_takeTrace_48 : decode cX0_takeTrace 48 = .ok (.invokevirtual 60, 3) := by decide +kernel
theorem dX0_takeTrace_51 : decode cX0_takeTrace 51 = .ok (.if_icmp .le 7, 3) := by decide +kernel
theorem dX0_takeTrace_54 : decode cX0_takeTrace 54 = .ok (.aload_n 0, 1) := by decide +kernel
theorem dX0_takeTrace_55 : decode cX0_takeTrace 55 = .ok (.invokevirtual 64, 3) := by decide +kernel
theorem dX0_takeTrace_58 : decode cX0_takeTrace 58 = .ok (.iinc 6 1, 3) := by decide +kernel
theorem dX0_takeTrace_61 : decode cX0_takeTrace 61 = .ok (.goto (-58), 3) := by decide +kernel
theorem dX0_takeTrace_64 : decode cX0_takeTrace 64 = .ok (.return_, 1) := by decide +kernel
theorem dX0_measure_0 : decode cX0_measure 0 = .ok (.aload_n 0, 1) := by decide +kernel
theorem dX0_measure_1 : decode cX0_measure 1 = .ok (.iconst 0, 1) := by decide +kernel
theorem dX0_measure_2 : decode cX0_measure 2 = .ok (.putfield 25, 3) := by decide +kernel
theorem dX0_measure_5 : decode cX0_measure 5 = .ok (.aload_n 0, 1) := by decide +kernel
theorem dX0_measure_6 : decode cX0_measure 6 = .ok (.iconst 0, 1) := by decide +kernel
theorem dX0_measure_7 : decode cX0_measure 7 = .ok (.putfield 28, 3) := by decide +kernel
theorem dX0_measure_10 : decode cX0_measure 10 = .ok (.aload_n 0, 1) := by decide +kernel
theorem dX0_measure_11 : decode cX0_measure 11 = .ok (.iconst 0, 1) := by decide +kernel
theorem dX0_measure_12 : decode cX0_measure 12 = .ok (.putfield 31, 3) := by decide +kernel
theorem dX0_measure_15 : decode cX0_measure 15 = .ok (.aload_n 0, 1) := by decide +kernel
theorem dX0_measure_16 : decode cX0_measure 16 = .ok (.iconst 0, 1) := by decide +kernel
theorem dX0_measure_17 : decode cX0_measure 17 = .ok (.putfield 34, 3) := by decide +kernel
theorem dX0_measure_20 : decode cX0_measure 20 = .ok (.iconst 0, 1) := by decide +kernel
theorem dX0_measure_21 : decode cX0_measure 21 = .ok (.istore_n 1, 1) := by decide +kernel
theorem dX0_measure_22 : decode cX0_measure 22 = .ok (.iload_n 1, 1) := by decide +kernel
theorem dX0_measure_23 : decode cX0_measure 23 = .ok (.bipush 8, 2) := by decide +kernel
theorem dX0_measure_25 : decode cX0_measure 25 = .ok (.if_icmp .ge 16, 3) := by decide +kernel
theorem dX0_measure_28 : decode cX0_measure 28 = .ok (.aload_n 0, 1) := by decide +kernel
theorem dX0_measure_29 : decode cX0_measure 29 = .ok (.getfield 38, 3) := by decide +kernel
theorem dX0_measure_32 : decode cX0_measure 32 = .ok (.iload_n 1, 1) := by decide +kernel
theorem dX0_measure_33 : decode cX0_measure 33 = .ok (.iconst 0, 1) := by decide +kernel
theorem dX0_measure_34 : decode cX0_measure 34 = .ok (.iastore, 1) := by decide +kernel
theorem dX0_measure_35 : decode cX0_measure 35 = .ok (.iinc 1 1, 3) := by decide +kernel
theorem dX0_measure_38 : decode cX0_measure 38 = .ok (.goto (-16), 3) := by decide +kernel
theorem dX0_measure_41 : decode cX0_measure 41 = .ok (.iconst 0, 1) := by decide +kernel
theorem dX0_measure_42 : decode cX0_measure 42 = .ok (.istore_n 1, 1) := by decide +kernel
theorem dX0_measure_43 : decode cX0_measure 43 = .ok (.iconst 0, 1) := by decide +kernel
theorem dX0_measure_44 : decode cX0_measure 44 = .ok (.istore_n 2, 1) := by decide +kernel
theorem dX0_measure_45 : decode cX0_measure 45 = .ok (.iload_n 2, 1) := by decide +kernel
theorem dX0_measure_46 : decode cX0_measure 46 = .ok (.aload_n 0, 1) := by decide +kernel
theorem dX0_measure_47 : decode cX0_measure 47 = .ok (.getfield 22, 3) := by decide +kernel
theorem dX0_measure_50 : decode cX0_measure 50 = .ok (.if_icmp .ge 27, 3) := by decide +kernel
theorem dX0_measure_53 : decode cX0_measure 53 = .ok (.aload_n 0, 1) := by decide +kernel
theorem dX0_measure_54 : decode cX0_measure 54 = .ok (.iload_n 1, 1) := by decide +kernel
theorem dX0_measure_55 : decode cX0_measure 55 = .ok (.aload_n 0, 1) := by decide +kernel
theorem dX0_measure_56 : decode cX0_measure 56 = .ok (.getfield 15, 3) := by decide +kernel
theorem dX0_measure_59 : decode cX0_measure 59 = .ok (.iload_n 2, 1) := by decide +kernel
theorem dX0_measure_60 : decode cX0_measure 60 = .ok (.iaload, 1) := by decide +kernel
theorem dX0_measure_61 : decode cX0_measure 61 = .ok (.invokevirtual 78, 3) := by decide +kernel
theorem dX0_measure_64 : decode cX0_measure 64 = .ok (.aload_n 0, 1) := by decide +kernel
theorem dX0_measure_65 : decode cX0_measure 65 = .ok (.getfield 15, 3) := by decide +kernel
theorem dX0_measure_68 : decode cX0_measure 68 = .ok (.iload_n 2, 1) := by decide +kernel
theorem dX0_measure_69 : decode cX0_measure 69 = .ok (.iaload, 1) := by decide +kernel
theorem dX0_measure_70 : decode cX0_measure 70 = .ok (.istore_n 1, 1) := by decide +kernel
theorem dX0_measure_71 : decode cX0_measure 71 = .ok (.iinc 2 1, 3) := by decide +kernel
theorem dX0_measure_74 : decode cX0_measure 74 = .ok (.goto (-29), 3) := by decide +kernel
theorem dX0_measure_77 : decode cX0_measure 77 = .ok (.return_, 1) := by decide +kernel
theorem dX0_measureTrace_0 : decode cX0_measureTrace 0 = .ok (.iload_n 1, 1) := by decide +kernel
theorem dX0_measureTrace_1 : decode cX0_measureTrace 1 = .ok (.iload_n 2, 1) := by decide +kernel
theorem dX0_measureTrace_2 : decode cX0_measureTrace 2 = .ok (.if_icmp .lt 9, 3) := by decide +kernel
theorem dX0_measureTrace_5 : decode cX0_measureTrace 5 = .ok (.aload_n 0, 1) := by decide +kernel
theorem dX0_measureTrace_6 : decode cX0_measureTrace 6 = .ok (.iconst 1, 1) := by decide +kernel
theorem dX0_measureTrace_7 : decode cX0_measureTrace 7 = .ok (.putfield 34, 3) := by decide +kernel
theorem dX0_measureTrace_10 : decode cX0_measureTrace 10 = .ok (.return_, 1) := by decide +kernel
theorem dX0_measureTrace_11 : decode cX0_measureTrace 11 = .ok (.aload_n 0, 1) := by decide +kernel
theorem dX0_measureTrace_12 : decode cX0_measureTrace 12 = .ok (.dup, 1) := by decide +kernel
theorem dX0_measureTrace_13 : decode cX0_measureTrace 13 = .ok (.getfield 28, 3) := by decide +kernel
theorem dX0_measureTrace_16 : decode cX0_measureTrace 16 = .ok (.iconst 1, 1) := by decide +kernel
theorem dX0_measureTrace_17 : decode cX0_measureTrace 17 = .ok (.aload_n 0, 1) := by decide +kernel
theorem dX0_measureTrace_18 : decode cX0_measureTrace 18 = .ok (.getfield 9, 3) := by decide +kernel
theorem dX0_measureTrace_21 : decode cX0_measureTrace 21 = .ok (.iload_n 1, 1) := by decide +kernel
theorem dX0_measureTrace_22 : decode cX0_measureTrace 22 = .ok (.iaload, 1) := by decide +kernel
theorem dX0_measureTrace_23 : decode cX0_measureTrace 23 = .ok (.ishl, 1) := by decide +kernel
theorem dX0_measureTrace_24 : decode cX0_measureTrace 24 = .ok (.ior, 1) := by decide +kernel
theorem dX0_measureTrace_25 : decode cX0_measureTrace 25 = .ok (.putfield 28, 3) := by decide +kernel
theorem dX0_measureTrace_28 : decode cX0_measureTrace 28 = .ok (.aload_n 0, 1) := by decide +kernel
theorem dX0_measureTrace_29 : decode cX0_measureTrace 29 = .ok (.dup, 1) := by decide +kernel
theorem dX0_measureTrace_30 : decode cX0_measureTrace 30 = .ok (.getfield 31, 3) := by decide +kernel
theorem dX0_measureTrace_33 : decode cX0_measureTrace 33 = .ok (.iconst 1, 1) := by decide +kernel
theorem dX0_measureTrace_34 : decode cX0_measureTrace 34 = .ok (.aload_n 0, 1) := by decide +kernel
theorem dX0_measureTrace_35 : decode cX0_measureTrace 35 = .ok (.getfield 9, 3) := by decide +kernel
theorem dX0_measureTrace_38 : decode cX0_measureTrace 38 = .ok (.iload_n 2, 1) := by decide +kernel
theorem dX0_measureTrace_39 : decode cX0_measureTrace 39 = .ok (.iconst 1, 1) := by decide +kernel
theorem dX0_measureTrace_40 : decode cX0_measureTrace 40 = .ok (.isub, 1) := by decide +kernel
theorem dX0_measureTrace_41 : decode cX0_measureTrace 41 = .ok (.iaload, 1) := by decide +kernel
theorem dX0_measureTrace_42 : decode cX0_measureTrace 42 = .ok (.ishl, 1) := by decide +kernel
theorem dX0_measureTrace_43 : decode cX0_measureTrace 43 = .ok (.ior, 1) := by decide +kernel
theorem dX0_measureTrace_44 : decode cX0_measureTrace 44 = .ok (.putfield 31, 3) := by decide +kernel
theorem dX0_measureTrace_47 : decode cX0_measureTrace 47 = .ok (.aload_n 0, 1) := by decide +kernel
theorem dX0_measureTrace_48 : decode cX0_measureTrace 48 = .ok (.dup, 1) := by decide +kernel
theorem dX0_measureTrace_49 : decode cX0_measureTrace 49 = .ok (.getfield 25, 3) := by decide +kernel
theorem dX0_measureTrace_52 : decode cX0_measureTrace 52 = .ok (.iconst 1, 1) := by decide +kernel
theorem dX0_measureTrace_53 : decode cX0_measureTrace 53 = .ok (.aload_n 0, 1) := by decide +kernel
theorem dX0_measureTrace_54 : decode cX0_measureTrace 54 = .ok (.getfield 9, 3) := by decide +kernel
theorem dX0_measureTrace_57 : decode cX0_measureTrace 57 = .ok (.iload_n 1, 1) := by decide +kernel
theorem dX0_measureTrace_58 : decode cX0_measureTrace 58 = .ok (.iaload, 1) := by decide +kernel
theorem dX0_measureTrace_59 : decode cX0_measureTrace 59 = .ok (.ishl, 1) := by decide +kernel
theorem dX0_measureTrace_60 : decode cX0_measureTrace 60 = .ok (.ior, 1) := by decide +kernel
theorem dX0_measureTrace_61 : decode cX0_measureTrace 61 = .ok (.putfield 25, 3) := by decide +kernel
theorem dX0_measureTrace_64 : decode cX0_measureTrace 64 = .ok (.iload_n 1, 1) := by decide +kernel
theorem dX0_measureTrace_65 : decode cX0_measureTrace 65 = .ok (.iconst 1, 1) := by decide +kernel
theorem dX0_measureTrace_66 : decode cX0_measureTrace 66 = .ok (.iadd, 1) := by decide +kernel
theorem dX0_measureTrace_67 : decode cX0_measureTrace 67 = .ok (.istore_n 3, 1) := by decide +kernel
theorem dX0_measureTrace_68 : decode cX0_measureTrace 68 = .ok (.iload_n 3, 1) := by decide +kernel
theorem dX0_measureTrace_69 : decode cX0_measureTrace 69 = .ok (.iload_n 2, 1) := by decide +kernel
theorem dX0_measureTrace_70 : decode cX0_measureTrace 70 = .ok (.if_icmp .ge 50, 3) := by decide +kernel
theorem dX0_measureTrace_73 : decode cX0_measureTrace 73 = .ok (.aload_n 0, 1) := by decide +kernel
theorem dX0_measureTrace_74 : decode cX0_measureTrace 74 = .ok (.dup, 1) := by decide +kernel
theorem dX0_measureTrace_75 : decode cX0_measureTrace 75 = .ok (.getfield 25, 3) := by decide +kernel
theorem dX0_measureTrace_78 : decode cX0_measureTrace 78 = .ok (.iconst 1, 1) := by decide +kernel
theorem dX0_measureTrace_79 : decode cX0_measureTrace 79 = .ok (.aload_n 0, 1) := by decide +kernel
theorem dX0_measureTrace_80 : decode cX0_measureTrace 80 = .ok (.getfield 9, 3) := by decide +kernel
theorem dX0_measureTrace_83 : decode cX0_measureTrace 83 = .ok (.iload_n 3, 1) := by decide +kernel
theorem dX0_measureTrace_84 : decode cX0_measureTrace 84 = .ok (.iaload, 1) := by decide +kernel
theorem dX0_measureTrace_85 : decode cX0_measureTrace 85 = .ok (.ishl, 1) := by decide +kernel
theorem dX0_measureTrace_86 : decode cX0_measureTrace 86 = .ok (.ior, 1) := by decide +kernel
theorem dX0_measureTrace_87 : decode cX0_measureTrace 87 = .ok (.putfield 25, 3) := by decide +kernel
theorem dX0_measureTrace_90 : decode cX0_measureTrace 90 = .ok (.aload_n 0, 1) := by decide +kernel
theorem dX0_measureTrace_91 : decode cX0_measureTrace 91 = .ok (.getfield 38, 3) := by decide +kernel
theorem dX0_measureTrace_94 : decode cX0_measureTrace 94 = .ok (.aload_n 0, 1) := by decide +kernel
theorem dX0_measureTrace_95 : decode cX0_measureTrace 95 = .ok (.getfield 9, 3) := by decide +kernel
theorem dX0_measureTrace_98 : decode cX0_measureTrace 98 = .ok (.iload_n 3, 1) := by decide +kernel
theorem dX0_measureTrace_99 : decode cX0_measureTrace 99 = .ok (.iconst 1, 1) := by decide +kernel
theorem dX0_measureTrace_100 : decode cX0_measureTrace 100 = .ok (.isub, 1) := by decide +kernel
theorem dX0_measureTrace_101 : decode cX0_measureTrace 101 = .ok (.iaload, 1) := by decide +kernel
theorem dX0_measureTrace_102 : decode cX0_measureTrace 102 = .ok (.dup2, 1) := by decide +kernel
theorem dX0_measureTrace_103 : decode cX0_measureTrace 103 = .ok (.iaload, 1) := by decide +kernel
theorem dX0_measureTrace_104 : decode cX0_measureTrace 104 = .ok (.iconst 1, 1) := by decide +kernel
theorem dX0_measureTrace_105 : decode cX0_measureTrace 105 = .ok (.aload_n 0, 1) := by decide +kernel
theorem dX0_measureTrace_106 : decode cX0_measureTrace 106 = .ok (.getfield 9, 3) := by decide +kernel
theorem dX0_measureTrace_109 : decode cX0_measureTrace 109 = .ok (.iload_n 3, 1) := by decide +kernel
theorem dX0_measureTrace_110 : decode cX0_measureTrace 110 = .ok (.iaload, 1) := by decide +kernel
theorem dX0_measureTrace_111 : decode cX0_measureTrace 111 = .ok (.ishl, 1) := by decide +kernel
theorem dX0_measureTrace_112 : decode cX0_measureTrace 112 = .ok (.ior, 1) := by decide +kernel
theorem dX0_measureTrace_113 : decode cX0_measureTrace 113 = .ok (.iastore, 1) := by decide +kernel
theorem dX0_measureTrace_114 : decode cX0_measureTrace 114 = .ok (.iinc 3 1, 3) := by decide +kernel
theorem dX0_measureTrace_117 : decode cX0_measureTrace 117 = .ok (.goto (-49), 3) := by decide +kernel
theorem dX0_measureTrace_120 : decode cX0_measureTrace 120 = .ok (.return_, 1) := by decide +kernel
theorem dX0_findReach_0 : decode cX0_findReach 0 = .ok (.iconst 0, 1) := by decide +kernel
theorem dX0_findReach_1 : decode cX0_findReach 1 = .ok (.istore_n 1, 1) := by decide +kernel
theorem dX0_findReach_2 : decode cX0_findReach 2 = .ok (.iload_n 1, 1) := by decide +kernel
theorem dX0_findReach_3 : decode cX0_findReach 3 = .ok (.bipush 8, 2) := by decide +kernel
theorem dX0_findReach_5 : decode cX0_findReach 5 = .ok (.if_icmp .ge 21, 3) := by decide +kernel
theorem dX0_findReach_8 : decode cX0_findReach 8 = .ok (.aload_n 0, 1) := by decide +kernel
theorem dX0_findReach_9 : decode cX0_findReach 9 = .ok (.getfield 41, 3) := by decide +kernel
theorem dX0_findReach_12 : decode cX0_findReach 12 = .ok (.iload_n 1, 1) := by decide +kernel
theorem dX0_findReach_13 : decode cX0_findReach 13 = .ok (.aload_n 0, 1) := by decide +kernel
theorem dX0_findReach_14 : decode cX0_findReach 14 = .ok (.getfield 38, 3) := by decide +kernel
theorem dX0_findReach_17 : decode cX0_findReach 17 = .ok (.iload_n 1, 1) := by decide +kernel
theorem dX0_findReach_18 : decode cX0_findReach 18 = .ok (.iaload, 1) := by decide +kernel
theorem dX0_findReach_19 : decode cX0_findReach 19 = .ok (.iastore, 1) := by decide +kernel
theorem dX0_findReach_20 : decode cX0_findReach 20 = .ok (.iinc 1 1, 3) := by decide +kernel
theorem dX0_findReach_23 : decode cX0_findReach 23 = .ok (.goto (-21), 3) := by decide +kernel
theorem dX0_findReach_26 : decode cX0_findReach 26 = .ok (.iconst 0, 1) := by decide +kernel
theorem dX0_findReach_27 : decode cX0_findReach 27 = .ok (.istore_n 1, 1) := by decide +kernel
theorem dX0_findReach_28 : decode cX0_findReach 28 = .ok (.iload_n 1, 1) := by decide +kernel
theorem dX0_findReach_29 : decode cX0_findReach 29 = .ok (.bipush 8, 2) := by decide +kernel
theorem dX0_findReach_31 : decode cX0_findReach 31 = .ok (.if_icmp .ge 51, 3) := by decide +kernel
theorem dX0_findReach_34 : decode cX0_findReach 34 = .ok (.iconst 0, 1) := by decide +kernel
theorem dX0_findReach_35 : decode cX0_findReach 35 = .ok (.istore_n 2, 1) := by decide +kernel
theorem dX0_findReach_36 : decode cX0_findReach 36 = .ok (.iload_n 2, 1) := by decide +kernel
theorem dX0_findReach_37 : decode cX0_findReach 37 = .ok (.bipush 8, 2) := by decide +kernel
theorem dX0_findReach_39 : decode cX0_findReach 39 = .ok (.if_icmp .ge 37, 3) := by decide +kernel
theorem dX0_findReach_42 : decode cX0_findReach 42 = .ok (.aload_n 0, 1) := by decide +kernel
theorem dX0_findReach_43 : decode cX0_findReach 43 = .ok (.getfield 41, 3) := by decide +kernel
theorem dX0_findReach_46 : decode cX0_findReach 46 = .ok (.iload_n 2, 1) := by decide +kernel
theorem dX0_findReach_47 : decode cX0_findReach 47 = .ok (.iaload, 1) := by decide +kernel
theorem dX0_findReach_48 : decode cX0_findReach 48 = .ok (.iload_n 1, 1) := by decide +kernel
theorem dX0_findReach_49 : decode cX0_findReach 49 = .ok (.invokestatic 70, 3) := by decide +kernel
theorem dX0_findReach_52 : decode cX0_findReach 52 = .ok (.ifCond .eq 18, 3) := by decide +kernel
theorem dX0_findReach_55 : decode cX0_findReach 55 = .ok (.aload_n 0, 1) := by decide +kernel
theorem dX0_findReach_56 : decode cX0_findReach 56 = .ok (.getfield 41, 3) := by decide +kernel
theorem dX0_findReach_59 : decode cX0_findReach 59 = .ok (.iload_n 2, 1) := by decide +kernel
theorem dX0_findReach_60 : decode cX0_findReach 60 = .ok (.dup2, 1) := by decide +kernel
theorem dX0_findReach_61 : decode cX0_findReach 61 = .ok (.iaload, 1) := by decide +kernel
theorem dX0_findReach_62 : decode cX0_findReach 62 = .ok (.aload_n 0, 1) := by decide +kernel
theorem dX0_findReach_63 : decode cX0_findReach 63 = .ok (.getfield 41, 3) := by decide +kernel
theorem dX0_findReach_66 : decode cX0_findReach 66 = .ok (.iload_n 1, 1) := by decide +kernel
theorem dX0_findReach_67 : decode cX0_findReach 67 = .ok (.iaload, 1) := by decide +kernel
theorem dX0_findReach_68 : decode cX0_findReach 68 = .ok (.ior, 1) := by decide +kernel
theorem dX0_findReach_69 : decode cX0_findReach 69 = .ok (.iastore, 1) := by decide +kernel
theorem dX0_findReach_70 : decode cX0_findReach 70 = .ok (.iinc 2 1, 3) := by decide +kernel
theorem dX0_findReach_73 : decode cX0_findReach 73 = .ok (.goto (-37), 3) := by decide +kernel
theorem dX0_findReach_76 : decode cX0_findReach 76 = .ok (.iinc 1 1, 3) := by decide +kernel
theorem dX0_findReach_79 : decode cX0_findReach 79 = .ok (.goto (-51), 3) := by decide +kernel
theorem dX0_findReach_82 : decode cX0_findReach 82 = .ok (.return_, 1) := by decide +kernel
theorem dX0_cut_0 : decode cX0_cut 0 = .ok (.aload_n 0, 1) := by decide +kernel
theorem dX0_cut_1 : decode cX0_cut 1 = .ok (.iconst 0, 1) := by decide +kernel
theorem dX0_cut_2 : decode cX0_cut 2 = .ok (.putfield 50, 3) := by decide +kernel
theorem dX0_cut_5 : decode cX0_cut 5 = .ok (.aload_n 0, 1) := by decide +kernel
theorem dX0_cut_6 : decode cX0_cut 6 = .ok (.getfield 25, 3) := by decide +kernel
theorem dX0_cut_9 : decode cX0_cut 9 = .ok (.ifCond .ne 5, 3) := by decide +kernel
theorem dX0_cut_12 : decode cX0_cut 12 = .ok (.iconst 0, 1) := by decide +kernel
theorem dX0_cut_13 : decode cX0_cut 13 = .ok (.ireturn, 1) := by decide +kernel
theorem dX0_cut_14 : decode cX0_cut 14 = .ok (.aload_n 0, 1) := by decide +kernel
theorem dX0_cut_15 : decode cX0_cut 15 = .ok (.getfield 34, 3) := by decide +kernel
theorem dX0_cut_18 : decode cX0_cut 18 = .ok (.ifCond .eq 13, 3) := by decide +kernel
theorem dX0_cut_21 : decode cX0_cut 21 = .ok (.aload_n 0, 1) := by decide +kernel
theorem dX0_cut_22 : decode cX0_cut 22 = .ok (.aload_n 0, 1) := by decide +kernel
theorem dX0_cut_23 : decode cX0_cut 23 = .ok (.getfield 25, 3) := by decide +kernel
theorem dX0_cut_26 : decode cX0_cut 26 = .ok (.invokevirtual 82, 3) := by decide +kernel
theorem dX0_cut_29 : decode cX0_cut 29 = .ok (.iconst 2, 1) := by decide +kernel
theorem dX0_cut_30 : decode cX0_cut 30 = .ok (.ireturn, 1) := by decide +kernel
theorem dX0_cut_31 : decode cX0_cut 31 = .ok (.aload_n 0, 1) := by decide +kernel
theorem dX0_cut_32 : decode cX0_cut 32 = .ok (.getfield 25, 3) := by decide +kernel
theorem dX0_cut_35 : decode cX0_cut 35 = .ok (.invokestatic 85, 3) := by decide +kernel
theorem dX0_cut_38 : decode cX0_cut 38 = .ok (.iconst 1, 1) := by decide +kernel
theorem dX0_cut_39 : decode cX0_cut 39 = .ok (.if_icmp .ne 16, 3) := by decide +kernel
theorem dX0_cut_42 : decode cX0_cut 42 = .ok (.aload_n 0, 1) := by decide +kernel
theorem dX0_cut_43 : decode cX0_cut 43 = .ok (.invokevirtual 91, 3) := by decide +kernel
theorem dX0_cut_46 : decode cX0_cut 46 = .ok (.ifCond .eq 7, 3) := by decide +kernel
theorem dX0_cut_49 : decode cX0_cut 49 = .ok (.iconst 5, 1) := by decide +kernel
theorem dX0_cut_50 : decode cX0_cut 50 = .ok (.goto 4, 3) := by decide +kernel
theorem dX0_cut_53 : decode cX0_cut 53 = .ok (.iconst 1, 1) := by decide +kernel
theorem dX0_cut_54 : decode cX0_cut 54 = .ok (.ireturn, 1) := by decide +kernel
theorem dX0_cut_55 : decode cX0_cut 55 = .ok (.aload_n 0, 1) := by decide +kernel
theorem dX0_cut_56 : decode cX0_cut 56 = .ok (.invokevirtual 95, 3) := by decide +kernel
theorem dX0_cut_59 : decode cX0_cut 59 = .ok (.ifCond .eq 5, 3) := by decide +kernel
theorem dX0_cut_62 : decode cX0_cut 62 = .ok (.iconst 2, 1) := by decide +kernel
theorem dX0_cut_63 : decode cX0_cut 63 = .ok (.ireturn, 1) := by decide +kernel
theorem dX0_cut_64 : decode cX0_cut 64 = .ok (.aload_n 0, 1) := by decide +kernel
theorem dX0_cut_65 : decode cX0_cut 65 = .ok (.invokevirtual 98, 3) := by decide +kernel
theorem dX0_cut_68 : decode cX0_cut 68 = .ok (.ifCond .eq 5, 3) := by decide +kernel
theorem dX0_cut_71 : decode cX0_cut 71 = .ok (.iconst 3, 1) := by decide +kernel
theorem dX0_cut_72 : decode cX0_cut 72 = .ok (.ireturn, 1) := by decide +kernel
theorem dX0_cut_73 : decode cX0_cut 73 = .ok (.aload_n 0, 1) := by decide +kernel
theorem dX0_cut_74 : decode cX0_cut 74 = .ok (.invokevirtual 101, 3) := by decide +kernel
theorem dX0_cut_77 : decode cX0_cut 77 = .ok (.ifCond .eq 5, 3) := by decide +kernel
theorem dX0_cut_80 : decode cX0_cut 80 = .ok (.iconst 4, 1) := by decide +kernel
theorem dX0_cut_81 : decode cX0_cut 81 = .ok (.ireturn, 1) := by decide +kernel
theorem dX0_cut_82 : decode cX0_cut 82 = .ok (.aload_n 0, 1) := by decide +kernel
theorem dX0_cut_83 : decode cX0_cut 83 = .ok (.invokevirtual 104, 3) := by decide +kernel
theorem dX0_cut_86 : decode cX0_cut 86 = .ok (.ifCond .eq 5, 3) := by decide +kernel
theorem dX0_cut_89 : decode cX0_cut 89 = .ok (.iconst 5, 1) := by decide +kernel
theorem dX0_cut_90 : decode cX0_cut 90 = .ok (.ireturn, 1) := by decide +kernel
theorem dX0_cut_91 : decode cX0_cut 91 = .ok (.aload_n 0, 1) := by decide +kernel
theorem dX0_cut_92 : decode cX0_cut 92 = .ok (.iconst 0, 1) := by decide +kernel
theorem dX0_cut_93 : decode cX0_cut 93 = .ok (.putfield 50, 3) := by decide +kernel
theorem dX0_cut_96 : decode cX0_cut 96 = .ok (.bipush 6, 2) := by decide +kernel
theorem dX0_cut_98 : decode cX0_cut 98 = .ok (.ireturn, 1) := by decide +kernel
theorem dX0_hasNext_0 : decode cX0_hasNext 0 = .ok (.iconst 0, 1) := by decide +kernel
theorem dX0_hasNext_1 : decode cX0_hasNext 1 = .ok (.istore_n 1, 1) := by decide +kernel
theorem dX0_hasNext_2 : decode cX0_hasNext 2 = .ok (.iload_n 1, 1) := by decide +kernel
theorem dX0_hasNext_3 : decode cX0_hasNext 3 = .ok (.bipush 8, 2) := by decide +kernel
theorem dX0_hasNext_5 : decode cX0_hasNext 5 = .ok (.if_icmp .ge 20, 3) := by decide +kernel
theorem dX0_hasNext_8 : decode cX0_hasNext 8 = .ok (.aload_n 0, 1) := by decide +kernel
theorem dX0_hasNext_9 : decode cX0_hasNext 9 = .ok (.getfield 38, 3) := by decide +kernel
theorem dX0_hasNext_12 : decode cX0_hasNext 12 = .ok (.iload_n 1, 1) := by decide +kernel
theorem dX0_hasNext_13 : decode cX0_hasNext 13 = .ok (.iaload, 1) := by decide +kernel
theorem dX0_hasNext_14 : decode cX0_hasNext 14 = .ok (.ifCond .eq 5, 3) := by decide +kernel
theorem dX0_hasNext_17 : decode cX0_hasNext 17 = .ok (.iconst 1, 1) := by decide +kernel
theorem dX0_hasNext_18 : decode cX0_hasNext 18 = .ok (.ireturn, 1) := by decide +kernel
theorem dX0_hasNext_19 : decode cX0_hasNext 19 = .ok (.iinc 1 1, 3) := by decide +kernel
theorem dX0_hasNext_22 : decode cX0_hasNext 22 = .ok (.goto (-20), 3) := by decide +kernel
theorem dX0_hasNext_25 : decode cX0_hasNext 25 = .ok (.iconst 0, 1) := by decide +kernel
theorem dX0_hasNext_26 : decode cX0_hasNext 26 = .ok (.ireturn, 1) := by decide +kernel
theorem dX0_isCutByChoice_0 : decode cX0_isCutByChoice 0 = .ok (.aload_n 0, 1) := by decide +kernel
theorem dX0_isCutByChoice_1 : decode cX0_isCutByChoice 1 = .ok (.iconst 0, 1) := by decide +kernel
theorem dX0_isCutByChoice_2 : decode cX0_isCutByChoice 2 = .ok (.putfield 50, 3) := by decide +kernel
theorem dX0_isCutByChoice_5 : decode cX0_isCutByChoice 5 = .ok (.aload_n 0, 1) := by decide +kernel
theorem dX0_isCutByChoice_6 : decode cX0_isCutByChoice 6 = .ok (.invokevirtual 107, 3) := by decide +kernel
theorem dX0_isCutByChoice_9 : decode cX0_isCutByChoice 9 = .ok (.aload_n 0, 1) := by decide +kernel
theorem dX0_isCutByChoice_10 : decode cX0_isCutByChoice 10 = .ok (.aload_n 0, 1) := by decide +kernel
theorem dX0_isCutByChoice_11 : decode cX0_isCutByChoice 11 = .ok (.getfield 25, 3) := by decide +kernel
theorem dX0_isCutByChoice_14 : decode cX0_isCutByChoice 14 = .ok (.invokevirtual 110, 3) := by decide +kernel
theorem dX0_isCutByChoice_17 : decode cX0_isCutByChoice 17 = .ok (.aload_n 0, 1) := by decide +kernel
theorem dX0_isCutByChoice_18 : decode cX0_isCutByChoice 18 = .ok (.getfield 50, 3) := by decide +kernel
theorem dX0_isCutByChoice_21 : decode cX0_isCutByChoice 21 = .ok (.iconst 1, 1) := by decide +kernel
theorem dX0_isCutByChoice_22 : decode cX0_isCutByChoice 22 = .ok (.if_icmp .le 7, 3) := by decide +kernel
theorem dX0_isCutByChoice_25 : decode cX0_isCutByChoice 25 = .ok (.iconst 1, 1) := by decide +kernel
theorem dX0_isCutByChoice_26 : decode cX0_isCutByChoice 26 = .ok (.goto 4, 3) := by decide +kernel
theorem dX0_isCutByChoice_29 : decode cX0_isCutByChoice 29 = .ok (.iconst 0, 1) := by decide +kernel
theorem dX0_isCutByChoice_30 : decode cX0_isCutByChoice 30 = .ok (.ireturn, 1) := by decide +kernel
theorem dX0_isCutByOrder_0 : decode cX0_isCutByOrder 0 = .ok (.aload_n 0, 1) := by decide +kernel
theorem dX0_isCutByOrder_1 : decode cX0_isCutByOrder 1 = .ok (.iconst 0, 1) := by decide +kernel
theorem dX0_isCutByOrder_2 : decode cX0_isCutByOrder 2 = .ok (.putfield 50, 3) := by decide +kernel
theorem dX0_isCutByOrder_5 : decode cX0_isCutByOrder 5 = .ok (.aload_n 0, 1) := by decide +kernel
theorem dX0_isCutByOrder_6 : decode cX0_isCutByOrder 6 = .ok (.invokevirtual 113, 3) := by decide +kernel
theorem dX0_isCutByOrder_9 : decode cX0_isCutByOrder 9 = .ok (.iconst 0, 1) := by decide +kernel
theorem dX0_isCutByOrder_10 : decode cX0_isCutByOrder 10 = .ok (.istore_n 1, 1) := by decide +kernel
theorem dX0_isCutByOrder_11 : decode cX0_isCutByOrder 11 = .ok (.iload_n 1, 1) := by decide +kernel
theorem dX0_isCutByOrder_12 : decode cX0_isCutByOrder 12 = .ok (.bipush 8, 2) := by decide +kernel
theorem dX0_isCutByOrder_14 : decode cX0_isCutByOrder 14 = .ok (.if_icmp .ge 65, 3) := by decide +kernel
theorem dX0_isCutByOrder_17 : decode cX0_isCutByOrder 17 = .ok (.aload_n 0, 1) := by decide +kernel
theorem dX0_isCutByOrder_18 : decode cX0_isCutByOrder 18 = .ok (.getfield 44, 3) := by decide +kernel
theorem dX0_isCutByOrder_21 : decode cX0_isCutByOrder 21 = .ok (.iload_n 1, 1) := by decide +kernel
theorem dX0_isCutByOrder_22 : decode cX0_isCutByOrder 22 = .ok (.iconst 0, 1) := by decide +kernel
theorem dX0_isCutByOrder_23 : decode cX0_isCutByOrder 23 = .ok (.iastore, 1) := by decide +kernel
theorem dX0_isCutByOrder_24 : decode cX0_isCutByOrder 24 = .ok (.iconst 0, 1) := by decide +kernel
theorem dX0_isCutByOrder_25 : decode cX0_isCutByOrder 25 = .ok (.istore_n 2, 1) := by decide +kernel
theorem dX0_isCutByOrder_26 : decode cX0_isCutByOrder 26 = .ok (.iload_n 2, 1) := by decide +kernel
theorem dX0_isCutByOrder_27 : decode cX0_isCutByOrder 27 = .ok (.bipush 8, 2) := by decide +kernel
theorem dX0_isCutByOrder_29 : decode cX0_isCutByOrder 29 = .ok (.if_icmp .ge 44, 3) := by decide +kernel
theorem dX0_isCutByOrder_32 : decode cX0_isCutByOrder 32 = .ok (.aload_n 0, 1) := by decide +kernel
theorem dX0_isCutByOrder_33 : decode cX0_isCutByOrder 33 = .ok (.getfield 41, 3) := by decide +kernel
theorem dX0_isCutByOrder_36 : decode cX0_isCutByOrder 36 = .ok (.iload_n 1, 1) := by decide +kernel
theorem dX0_isCutByOrder_37 : decode cX0_isCutByOrder 37 = .ok (.iaload, 1) := by decide +kernel
theorem dX0_isCutByOrder_38 : decode cX0_isCutByOrder 38 = .ok (.iload_n 2, 1) := by decide +kernel
theorem dX0_isCutByOrder_39 : decode cX0_isCutByOrder 39 = .ok (.invokestatic 70, 3) := by decide +kernel
theorem dX0_isCutByOrder_42 : decode cX0_isCutByOrder 42 = .ok (.aload_n 0, 1) := by decide +kernel
theorem dX0_isCutByOrder_43 : decode cX0_isCutByOrder 43 = .ok (.getfield 41, 3) := by decide +kernel
theorem dX0_isCutByOrder_46 : decode cX0_isCutByOrder 46 = .ok (.iload_n 2, 1) := by decide +kernel
theorem dX0_isCutByOrder_47 : decode cX0_isCutByOrder 47 = .ok (.iaload, 1) := by decide +kernel
theorem dX0_isCutByOrder_48 : decode cX0_isCutByOrder 48 = .ok (.iload_n 1, 1) := by decide +kernel
theorem dX0_isCutByOrder_49 : decode cX0_isCutByOrder 49 = .ok (.invokestatic 70, 3) := by decide +kernel
theorem dX0_isCutByOrder_52 : decode cX0_isCutByOrder 52 = .ok (.if_icmp .ne 15, 3) := by decide +kernel
theorem dX0_isCutByOrder_55 : decode cX0_isCutByOrder 55 = .ok (.aload_n 0, 1) := by decide +kernel
theorem dX0_isCutByOrder_56 : decode cX0_isCutByOrder 56 = .ok (.getfield 44, 3) := by decide +kernel
theorem dX0_isCutByOrder_59 : decode cX0_isCutByOrder 59 = .ok (.iload_n 1, 1) := by decide +kernel
theorem dX0_isCutByOrder_60 : decode cX0_isCutByOrder 60 = .ok (.dup2, 1) := by decide +kernel
theorem dX0_isCutByOrder_61 : decode cX0_isCutByOrder 61 = .ok (.iaload, 1) := by decide +kernel
theorem dX0_isCutByOrder_62 : decode cX0_isCutByOrder 62 = .ok (.iconst 1, 1) := by decide +kernel
theorem dX0_isCutByOrder_63 : decode cX0_isCutByOrder 63 = .ok (.iload_n 2, 1) := by decide +kernel
theorem dX0_isCutByOrder_64 : decode cX0_isCutByOrder 64 = .ok (.ishl, 1) := by decide +kernel
theorem dX0_isCutByOrder_65 : decode cX0_isCutByOrder 65 = .ok (.ior, 1) := by decide +kernel
theorem dX0_isCutByOrder_66 : decode cX0_isCutByOrder 66 = .ok (.iastore, 1) := by decide +kernel
theorem dX0_isCutByOrder_67 : decode cX0_isCutByOrder 67 = .ok (.iinc 2 1, 3) := by decide +kernel
theorem dX0_isCutByOrder_70 : decode cX0_isCutByOrder 70 = .ok (.goto (-44), 3) := by decide +kernel
theorem dX0_isCutByOrder_73 : decode cX0_isCutByOrder 73 = .ok (.iinc 1 1, 3) := by decide +kernel
theorem dX0_isCutByOrder_76 : decode cX0_isCutByOrder 76 = .ok (.goto (-65), 3) := by decide +kernel
theorem dX0_isCutByOrder_79 : decode cX0_isCutByOrder 79 = .ok (.aload_n 0, 1) := by decide +kernel
theorem dX0_isCutByOrder_80 : decode cX0_isCutByOrder 80 = .ok (.aload_n 0, 1) := by decide +kernel
theorem dX0_isCutByOrder_81 : decode cX0_isCutByOrder 81 = .ok (.getfield 25, 3) := by decide +kernel
theorem dX0_isCutByOrder_84 : decode cX0_isCutByOrder 84 = .ok (.invokevirtual 110, 3) := by decide +kernel
theorem dX0_isCutByOrder_87 : decode cX0_isCutByOrder 87 = .ok (.aload_n 0, 1) := by decide +kernel
theorem dX0_isCutByOrder_88 : decode cX0_isCutByOrder 88 = .ok (.invokevirtual 116, 3) := by decide +kernel
theorem dX0_isCutByOrder_91 : decode cX0_isCutByOrder 91 = .ok (.aload_n 0, 1) := by decide +kernel
theorem dX0_isCutByOrder_92 : decode cX0_isCutByOrder 92 = .ok (.getfield 50, 3) := by decide +kernel
theorem dX0_isCutByOrder_95 : decode cX0_isCutByOrder 95 = .ok (.iconst 1, 1) := by decide +kernel
theorem dX0_isCutByOrder_96 : decode cX0_isCutByOrder 96 = .ok (.if_icmp .le 7, 3) := by decide +kernel
theorem dX0_isCutByOrder_99 : decode cX0_isCutByOrder 99 = .ok (.iconst 1, 1) := by decide +kernel
theorem dX0_isCutByOrder_100 : decode cX0_isCutByOrder 100 = .ok (.goto 4, 3) := by decide +kernel
theorem dX0_isCutByOrder_103 : decode cX0_isCutByOrder 103 = .ok (.iconst 0, 1) := by decide +kernel
theorem dX0_isCutByOrder_104 : decode cX0_isCutByOrder 104 = .ok (.ireturn, 1) := by decide +kernel
theorem dX0_isCutByBoth_0 : decode cX0_isCutByBoth 0 = .ok (.aload_n 0, 1) := by decide +kernel
theorem dX0_isCutByBoth_1 : decode cX0_isCutByBoth 1 = .ok (.iconst 0, 1) := by decide +kernel
theorem dX0_isCutByBoth_2 : decode cX0_isCutByBoth 2 = .ok (.putfield 50, 3) := by decide +kernel
theorem dX0_isCutByBoth_5 : decode cX0_isCutByBoth 5 = .ok (.iconst 0, 1) := by decide +kernel
theorem dX0_isCutByBoth_6 : decode cX0_isCutByBoth 6 = .ok (.istore_n 1, 1) := by decide +kernel
theorem dX0_isCutByBoth_7 : decode cX0_isCutByBoth 7 = .ok (.iload_n 1, 1) := by decide +kernel
theorem dX0_isCutByBoth_8 : decode cX0_isCutByBoth 8 = .ok (.bipush 8, 2) := by decide +kernel
theorem dX0_isCutByBoth_10 : decode cX0_isCutByBoth 10 = .ok (.if_icmp .ge 68, 3) := by decide +kernel
theorem dX0_isCutByBoth_13 : decode cX0_isCutByBoth 13 = .ok (.aload_n 0, 1) := by decide +kernel
theorem dX0_isCutByBoth_14 : decode cX0_isCutByBoth 14 = .ok (.getfield 44, 3) := by decide +kernel
theorem dX0_isCutByBoth_17 : decode cX0_isCutByBoth 17 = .ok (.iload_n 1, 1) := by decide +kernel
theorem dX0_isCutByBoth_18 : decode cX0_isCutByBoth 18 = .ok (.iconst 0, 1) := by decide +kernel
theorem dX0_isCutByBoth_19 : decode cX0_isCutByBoth 19 = .ok (.iastore, 1) := by decide +kernel
theorem dX0_isCutByBoth_20 : decode cX0_isCutByBoth 20 = .ok (.iconst 0, 1) := by decide +kernel
theorem dX0_isCutByBoth_21 : decode cX0_isCutByBoth 21 = .ok (.istore_n 2, 1) := by decide +kernel
theorem dX0_isCutByBoth_22 : decode cX0_isCutByBoth 22 = .ok (.iload_n 2, 1) := by decide +kernel
theorem dX0_isCutByBoth_23 : decode cX0_isCutByBoth 23 = .ok (.bipush 8, 2) := by decide +kernel
theorem dX0_isCutByBoth_25 : decode cX0_isCutByBoth 25 = .ok (.if_icmp .ge 47, 3) := by decide +kernel
theorem dX0_isCutByBoth_28 : decode cX0_isCutByBoth 28 = .ok (.aload_n 0, 1) := by decide +kernel
theorem dX0_isCutByBoth_29 : decode cX0_isCutByBoth 29 = .ok (.getfield 38, 3) := by decide +kernel
theorem dX0_isCutByBoth_32 : decode cX0_isCutByBoth 32 = .ok (.iload_n 1, 1) := by decide +kernel
theorem dX0_isCutByBoth_33 : decode cX0_isCutByBoth 33 = .ok (.iaload, 1) := by decide +kernel
theorem dX0_isCutByBoth_34 : decode cX0_isCutByBoth 34 = .ok (.iload_n 2, 1) := by decide +kernel
theorem dX0_isCutByBoth_35 : decode cX0_isCutByBoth 35 = .ok (.invokestatic 70, 3) := by decide +kernel
theorem dX0_isCutByBoth_38 : decode cX0_isCutByBoth 38 = .ok (.ifCond .eq 16, 3) := by decide +kernel
theorem dX0_isCutByBoth_41 : decode cX0_isCutByBoth 41 = .ok (.aload_n 0, 1) := by decide +kernel
theorem dX0_isCutByBoth_42 : decode cX0_isCutByBoth 42 = .ok (.getfield 38, 3) := by decide +kernel
theorem dX0_isCutByBoth_45 : decode cX0_isCutByBoth 45 = .ok (.iload_n 2, 1) := by decide +kernel
theorem dX0_isCutByBoth_46 : decode cX0_isCutByBoth 46 = .ok (.iaload, 1) := by decide +kernel
theorem dX0_isCutByBoth_47 : decode cX0_isCutByBoth 47 = .ok (.iload_n 1, 1) := by decide +kernel
theorem dX0_isCutByBoth_48 : decode cX0_isCutByBoth 48 = .ok (.invokestatic 70, 3) := by decide +kernel
theorem dX0_isCutByBoth_51 : decode cX0_isCutByBoth 51 = .ok (.ifCond .ne 15, 3) := by decide +kernel
theorem dX0_isCutByBoth_54 : decode cX0_isCutByBoth 54 = .ok (.aload_n 0, 1) := by decide +kernel
theorem dX0_isCutByBoth_55 : decode cX0_isCutByBoth 55 = .ok (.getfield 44, 3) := by decide +kernel
theorem dX0_isCutByBoth_58 : decode cX0_isCutByBoth 58 = .ok (.iload_n 1, 1) := by decide +kernel
theorem dX0_isCutByBoth_59 : decode cX0_isCutByBoth 59 = .ok (.dup2, 1) := by decide +kernel
theorem dX0_isCutByBoth_60 : decode cX0_isCutByBoth 60 = .ok (.iaload, 1) := by decide +kernel
theorem dX0_isCutByBoth_61 : decode cX0_isCutByBoth 61 = .ok (.iconst 1, 1) := by decide +kernel
theorem dX0_isCutByBoth_62 : decode cX0_isCutByBoth 62 = .ok (.iload_n 2, 1) := by decide +kernel
theorem dX0_isCutByBoth_63 : decode cX0_isCutByBoth 63 = .ok (.ishl, 1) := by decide +kernel
theorem dX0_isCutByBoth_64 : decode cX0_isCutByBoth 64 = .ok (.ior, 1) := by decide +kernel
theorem dX0_isCutByBoth_65 : decode cX0_isCutByBoth 65 = .ok (.iastore, 1) := by decide +kernel
theorem dX0_isCutByBoth_66 : decode cX0_isCutByBoth 66 = .ok (.iinc 2 1, 3) := by decide +kernel
theorem dX0_isCutByBoth_69 : decode cX0_isCutByBoth 69 = .ok (.goto (-47), 3) := by decide +kernel
theorem dX0_isCutByBoth_72 : decode cX0_isCutByBoth 72 = .ok (.iinc 1 1, 3) := by decide +kernel
theorem dX0_isCutByBoth_75 : decode cX0_isCutByBoth 75 = .ok (.goto (-68), 3) := by decide +kernel
theorem dX0_isCutByBoth_78 : decode cX0_isCutByBoth 78 = .ok (.aload_n 0, 1) := by decide +kernel
theorem dX0_isCutByBoth_79 : decode cX0_isCutByBoth 79 = .ok (.aload_n 0, 1) := by decide +kernel
theorem dX0_isCutByBoth_80 : decode cX0_isCutByBoth 80 = .ok (.getfield 25, 3) := by decide +kernel
theorem dX0_isCutByBoth_83 : decode cX0_isCutByBoth 83 = .ok (.invokevirtual 110, 3) := by decide +kernel
theorem dX0_isCutByBoth_86 : decode cX0_isCutByBoth 86 = .ok (.aload_n 0, 1) := by decide +kernel
theorem dX0_isCutByBoth_87 : decode cX0_isCutByBoth 87 = .ok (.invokevirtual 119, 3) := by decide +kernel
theorem dX0_isCutByBoth_90 : decode cX0_isCutByBoth 90 = .ok (.aload_n 0, 1) := by decide +kernel
theorem dX0_isCutByBoth_91 : decode cX0_isCutByBoth 91 = .ok (.getfield 50, 3) := by decide +kernel
theorem dX0_isCutByBoth_94 : decode cX0_isCutByBoth 94 = .ok (.iconst 1, 1) := by decide +kernel
theorem dX0_isCutByBoth_95 : decode cX0_isCutByBoth 95 = .ok (.if_icmp .le 7, 3) := by decide +kernel
theorem dX0_isCutByBoth_98 : decode cX0_isCutByBoth 98 = .ok (.iconst 1, 1) := by decide +kernel
theorem dX0_isCutByBoth_99 : decode cX0_isCutByBoth 99 = .ok (.goto 4, 3) := by decide +kernel
theorem dX0_isCutByBoth_102 : decode cX0_isCutByBoth 102 = .ok (.iconst 0, 1) := by decide +kernel
theorem dX0_isCutByBoth_103 : decode cX0_isCutByBoth 103 = .ok (.ireturn, 1) := by decide +kernel
theorem dX0_isCutByAgain_0 : decode cX0_isCutByAgain 0 = .ok (.aload_n 0, 1) := by decide +kernel
theorem dX0_isCutByAgain_1 : decode cX0_isCutByAgain 1 = .ok (.iconst 0, 1) := by decide +kernel
theorem dX0_isCutByAgain_2 : decode cX0_isCutByAgain 2 = .ok (.putfield 50, 3) := by decide +kernel
theorem dX0_isCutByAgain_5 : decode cX0_isCutByAgain 5 = .ok (.aload_n 0, 1) := by decide +kernel
theorem dX0_isCutByAgain_6 : decode cX0_isCutByAgain 6 = .ok (.getfield 28, 3) := by decide +kernel
theorem dX0_isCutByAgain_9 : decode cX0_isCutByAgain 9 = .ok (.aload_n 0, 1) := by decide +kernel
theorem dX0_isCutByAgain_10 : decode cX0_isCutByAgain 10 = .ok (.getfield 31, 3) := by decide +kernel
theorem dX0_isCutByAgain_13 : decode cX0_isCutByAgain 13 = .ok (.ior, 1) := by decide +kernel
theorem dX0_isCutByAgain_14 : decode cX0_isCutByAgain 14 = .ok (.istore_n 1, 1) := by decide +kernel
theorem dX0_isCutByAgain_15 : decode cX0_isCutByAgain 15 = .ok (.aload_n 0, 1) := by decide +kernel
theorem dX0_isCutByAgain_16 : decode cX0_isCutByAgain 16 = .ok (.iload_n 1, 1) := by decide +kernel
theorem dX0_isCutByAgain_17 : decode cX0_isCutByAgain 17 = .ok (.invokevirtual 82, 3) := by decide +kernel
theorem dX0_isCutByAgain_20 : decode cX0_isCutByAgain 20 = .ok (.aload_n 0, 1) := by decide +kernel
theorem dX0_isCutByAgain_21 : decode cX0_isCutByAgain 21 = .ok (.invokevirtual 107, 3) := by decide +kernel
theorem dX0_isCutByAgain_24 : decode cX0_isCutByAgain 24 = .ok (.aload_n 0, 1) := by decide +kernel
theorem dX0_isCutByAgain_25 : decode cX0_isCutByAgain 25 = .ok (.aload_n 0, 1) := by decide +kernel
theorem dX0_isCutByAgain_26 : decode cX0_isCutByAgain 26 = .ok (.getfield 25, 3) := by decide +kernel
theorem dX0_isCutByAgain_29 : decode cX0_isCutByAgain 29 = .ok (.iload_n 1, 1) := by decide +kernel
theorem dX0_isCutByAgain_30 : decode cX0_isCutByAgain 30 = .ok (.iconst (-1), 1) := by decide +kernel
theorem dX0_isCutByAgain_31 : decode cX0_isCutByAgain 31 = .ok (.ixor, 1) := by decide +kernel
theorem dX0_isCutByAgain_32 : decode cX0_isCutByAgain 32 = .ok (.iand, 1) := by decide +kernel
theorem dX0_isCutByAgain_33 : decode cX0_isCutByAgain 33 = .ok (.invokevirtual 110, 3) := by decide +kernel
theorem dX0_isCutByAgain_36 : decode cX0_isCutByAgain 36 = .ok (.iconst 1, 1) := by decide +kernel
theorem dX0_isCutByAgain_37 : decode cX0_isCutByAgain 37 = .ok (.istore_n 2, 1) := by decide +kernel
theorem dX0_isCutByAgain_38 : decode cX0_isCutByAgain 38 = .ok (.iconst 1, 1) := by decide +kernel
theorem dX0_isCutByAgain_39 : decode cX0_isCutByAgain 39 = .ok (.istore_n 3, 1) := by decide +kernel
theorem dX0_isCutByAgain_40 : decode cX0_isCutByAgain 40 = .ok (.iload_n 3, 1) := by decide +kernel
theorem dX0_isCutByAgain_41 : decode cX0_isCutByAgain 41 = .ok (.aload_n 0, 1) := by decide +kernel
theorem dX0_isCutByAgain_42 : decode cX0_isCutByAgain 42 = .ok (.getfield 50, 3) := by decide +kernel
theorem dX0_isCutByAgain_45 : decode cX0_isCutByAgain 45 = .ok (.if_icmp .ge 55, 3) := by decide +kernel
theorem dX0_isCutByAgain_48 : decode cX0_isCutByAgain 48 = .ok (.aload_n 0, 1) := by decide +kernel
theorem dX0_isCutByAgain_49 : decode cX0_isCutByAgain 49 = .ok (.aload_n 0, 1) := by decide +kernel
theorem dX0_isCutByAgain_50 : decode cX0_isCutByAgain 50 = .ok (.getfield 47, 3) := by decide +kernel
theorem dX0_isCutByAgain_53 : decode cX0_isCutByAgain 53 = .ok (.iload_n 3, 1) := by decide +kernel
theorem dX0_isCutByAgain_54 : decode cX0_isCutByAgain 54 = .ok (.iaload, 1) := by decide +kernel
theorem dX0_isCutByAgain_55 : decode cX0_isCutByAgain 55 = .ok (.invokevirtual 122, 3) := by decide +kernel
theorem dX0_isCutByAgain_58 : decode cX0_isCutByAgain 58 = .ok (.ifCond .eq 21, 3) := by decide +kernel
theorem dX0_isCutByAgain_61 : decode cX0_isCutByAgain 61 = .ok (.aload_n 0, 1) := by decide +kernel
theorem dX0_isCutByAgain_62 : decode cX0_isCutByAgain 62 = .ok (.getfield 47, 3) := by decide +kernel
theorem dX0_isCutByAgain_65 : decode cX0_isCutByAgain 65 = .ok (.iconst 0, 1) := by decide +kernel
theorem dX0_isCutByAgain_66 : decode cX0_isCutByAgain 66 = .ok (.dup2, 1) := by decide +kernel
theorem dX0_isCutByAgain_67 : decode cX0_isCutByAgain 67 = .ok (.iaload, 1) := by decide +kernel
theorem dX0_isCutByAgain_68 : decode cX0_isCutByAgain 68 = .ok (.aload_n 0, 1) := by decide +kernel
theorem dX0_isCutByAgain_69 : decode cX0_isCutByAgain 69 = .ok (.getfield 47, 3) := by decide +kernel
theorem dX0_isCutByAgain_72 : decode cX0_isCutByAgain 72 = .ok (.iload_n 3, 1) := by decide +kernel
theorem dX0_isCutByAgain_73 : decode cX0_isCutByAgain 73 = .ok (.iaload, 1) := by decide +kernel
theorem dX0_isCutByAgain_74 : decode cX0_isCutByAgain 74 = .ok (.ior, 1) := by decide +kernel
theorem dX0_isCutByAgain_75 : decode cX0_isCutByAgain 75 = .ok (.iastore, 1) := by decide +kernel
theorem dX0_isCutByAgain_76 : decode cX0_isCutByAgain 76 = .ok (.goto 18, 3) := by decide +kernel
theorem dX0_isCutByAgain_79 : decode cX0_isCutByAgain 79 = .ok (.aload_n 0, 1) := by decide +kernel
theorem dX0_isCutByAgain_80 : decode cX0_isCutByAgain 80 = .ok (.getfield 47, 3) := by decide +kernel
theorem dX0_isCutByAgain_83 : decode cX0_isCutByAgain 83 = .ok (.iload_n 2, 1) := by decide +kernel
theorem dX0_isCutByAgain_84 : decode cX0_isCutByAgain 84 = .ok (.aload_n 0, 1) := by decide +kernel
theorem dX0_isCutByAgain_85 : decode cX0_isCutByAgain 85 = .ok (.getfield 47, 3) := by decide +kernel
theorem dX0_isCutByAgain_88 : decode cX0_isCutByAgain 88 = .ok (.iload_n 3, 1) := by decide +kernel
theorem dX0_isCutByAgain_89 : decode cX0_isCutByAgain 89 = .ok (.iaload, 1) := by decide +kernel
theorem dX0_isCutByAgain_90 : decode cX0_isCutByAgain 90 = .ok (.iastore, 1) := by decide +kernel
theorem dX0_isCutByAgain_91 : decode cX0_isCutByAgain 91 = .ok (.iinc 2 1, 3) := by decide +kernel
theorem dX0_isCutByAgain_94 : decode cX0_isCutByAgain 94 = .ok (.iinc 3 1, 3) := by decide +kernel
theorem dX0_isCutByAgain_97 : decode cX0_isCutByAgain 97 = .ok (.goto (-57), 3) := by decide +kernel
theorem dX0_isCutByAgain_100 : decode cX0_isCutByAgain 100 = .ok (.aload_n 0, 1) := by decide +kernel
theorem dX0_isCutByAgain_101 : decode cX0_isCutByAgain 101 = .ok (.iload_n 2, 1) := by decide +kernel
theorem dX0_isCutByAgain_102 : decode cX0_isCutByAgain 102 = .ok (.putfield 50, 3) := by decide +kernel
theorem dX0_isCutByAgain_105 : decode cX0_isCutByAgain 105 = .ok (.aload_n 0, 1) := by decide +kernel
theorem dX0_isCutByAgain_106 : decode cX0_isCutByAgain 106 = .ok (.getfield 50, 3) := by decide +kernel
theorem dX0_isCutByAgain_109 : decode cX0_isCutByAgain 109 = .ok (.iconst 1, 1) := by decide +kernel
theorem dX0_isCutByAgain_110 : decode cX0_isCutByAgain 110 = .ok (.if_icmp .le 7, 3) := by decide +kernel
theorem dX0_isCutByAgain_113 : decode cX0_isCutByAgain 113 = .ok (.iconst 1, 1) := by decide +kernel
theorem dX0_isCutByAgain_114 : decode cX0_isCutByAgain 114 = .ok (.goto 4, 3) := by decide +kernel
theorem dX0_isCutByAgain_117 : decode cX0_isCutByAgain 117 = .ok (.iconst 0, 1) := by decide +kernel
theorem dX0_isCutByAgain_118 : decode cX0_isCutByAgain 118 = .ok (.ireturn, 1) := by decide +kernel
theorem dX0_addPart_0 : decode cX0_addPart 0 = .ok (.aload_n 0, 1) := by decide +kernel
theorem dX0_addPart_1 : decode cX0_addPart 1 = .ok (.getfield 50, 3) := by decide +kernel
theorem dX0_addPart_4 : decode cX0_addPart 4 = .ok (.aload_n 0, 1) := by decide +kernel
theorem dX0_addPart_5 : decode cX0_addPart 5 = .ok (.getfield 47, 3) := by decide +kernel
theorem dX0_addPart_8 : decode cX0_addPart 8 = .ok (.arraylength, 1) := by decide +kernel
theorem dX0_addPart_9 : decode cX0_addPart 9 = .ok (.if_icmp .ge 23, 3) := by decide +kernel
theorem dX0_addPart_12 : decode cX0_addPart 12 = .ok (.aload_n 0, 1) := by decide +kernel
theorem dX0_addPart_13 : decode cX0_addPart 13 = .ok (.getfield 47, 3) := by decide +kernel
theorem dX0_addPart_16 : decode cX0_addPart 16 = .ok (.aload_n 0, 1) := by decide +kernel
theorem dX0_addPart_17 : decode cX0_addPart 17 = .ok (.getfield 50, 3) := by decide +kernel
theorem dX0_addPart_20 : decode cX0_addPart 20 = .ok (.iload_n 1, 1) := by decide +kernel
theorem dX0_addPart_21 : decode cX0_addPart 21 = .ok (.iastore, 1) := by decide +kernel
theorem dX0_addPart_22 : decode cX0_addPart 22 = .ok (.aload_n 0, 1) := by decide +kernel
theorem dX0_addPart_23 : decode cX0_addPart 23 = .ok (.dup, 1) := by decide +kernel
theorem dX0_addPart_24 : decode cX0_addPart 24 = .ok (.getfield 50, 3) := by decide +kernel
theorem dX0_addPart_27 : decode cX0_addPart 27 = .ok (.iconst 1, 1) := by decide +kernel
theorem dX0_addPart_28 : decode cX0_addPart 28 = .ok (.iadd, 1) := by decide +kernel
theorem dX0_addPart_29 : decode cX0_addPart 29 = .ok (.putfield 50, 3) := by decide +kernel
theorem dX0_addPart_32 : decode cX0_addPart 32 = .ok (.return_, 1) := by decide +kernel
theorem dX0_linkNeighbours_0 : decode cX0_linkNeighbours 0 = .ok (.iconst 0, 1) := by decide +kernel
theorem dX0_linkNeighbours_1 : decode cX0_linkNeighbours 1 = .ok (.istore_n 1, 1) := by decide +kernel
theorem dX0_linkNeighbours_2 : decode cX0_linkNeighbours 2 = .ok (.iload_n 1, 1) := by decide +kernel
theorem dX0_linkNeighbours_3 : decode cX0_linkNeighbours 3 = .ok (.bipush 8, 2) := by decide +kernel
theorem dX0_linkNeighbours_5 : decode cX0_linkNeighbours 5 = .ok (.if_icmp .ge 60, 3) := by decide +kernel
theorem dX0_linkNeighbours_8 : decode cX0_linkNeighbours 8 = .ok (.aload_n 0, 1) := by decide +kernel
theorem dX0_linkNeighbours_9 : decode cX0_linkNeighbours 9 = .ok (.getfield 44, 3) := by decide +kernel
theorem dX0_linkNeighbours_12 : decode cX0_linkNeighbours 12 = .ok (.iload_n 1, 1) := by decide +kernel
theorem dX0_linkNeighbours_13 : decode cX0_linkNeighbours 13 = .ok (.aload_n 0, 1) := by decide +kernel
theorem dX0_linkNeighbours_14 : decode cX0_linkNeighbours 14 = .ok (.getfield 38, 3) := by decide +kernel
theorem dX0_linkNeighbours_17 : decode cX0_linkNeighbours 17 = .ok (.iload_n 1, 1) := by decide +kernel
theorem dX0_linkNeighbours_18 : decode cX0_linkNeighbours 18 = .ok (.iaload, 1) := by decide +kernel
theorem dX0_linkNeighbours_19 : decode cX0_linkNeighbours 19 = .ok (.iastore, 1) := by decide +kernel
theorem dX0_linkNeighbours_20 : decode cX0_linkNeighbours 20 = .ok (.iconst 0, 1) := by decide +kernel
theorem dX0_linkNeighbours_21 : decode cX0_linkNeighbours 21 = .ok (.istore_n 2, 1) := by decide +kernel
theorem dX0_linkNeighbours_22 : decode cX0_linkNeighbours 22 = .ok (.iload_n 2, 1) := by decide +kernel
theorem dX0_linkNeighbours_23 : decode cX0_linkNeighbours 23 = .ok (.bipush 8, 2) := by decide +kernel
theorem dX0_linkNeighbours_25 : decode cX0_linkNeighbours 25 = .ok (.if_icmp .ge 34, 3) := by decide +kernel
theorem dX0_linkNeighbours_28 : decode cX0_linkNeighbours 28 = .ok (.aload_n 0, 1) := by decide +kernel
theorem dX0_linkNeighbours_29 : decode cX0_linkNeighbours 29 = .ok (.getfield 38, 3) := by decide +kernel
theorem dX0_linkNeighbours_32 : decode cX0_linkNeighbours 32 = .ok (.iload_n 2, 1) := by decide +kernel
theorem dX0_linkNeighbours_33 : decode cX0_linkNeighbours 33 = .ok (.iaload, 1) := by decide +kernel
theorem dX0_linkNeighbours_34 : decode cX0_linkNeighbours 34 = .ok (.iload_n 1, 1) := by decide +kernel
theorem dX0_linkNeighbours_35 : decode cX0_linkNeighbours 35 = .ok (.invokestatic 70, 3) := by decide +kernel
theorem dX0_linkNeighbours_38 : decode cX0_linkNeighbours 38 = .ok (.ifCond .eq 15, 3) := by decide +kernel
theorem dX0_linkNeighbours_41 : decode cX0_linkNeighbours 41 = .ok (.aload_n 0, 1) := by decide +kernel
theorem dX0_linkNeighbours_42 : decode cX0_linkNeighbours 42 = .ok (.getfield 44, 3) := by decide +kernel
theorem dX0_linkNeighbours_45 : decode cX0_linkNeighbours 45 = .ok (.iload_n 1, 1) := by decide +kernel
theorem dX0_linkNeighbours_46 : decode cX0_linkNeighbours 46 = .ok (.dup2, 1) := by decide +kernel
theorem dX0_linkNeighbours_47 : decode cX0_linkNeighbours 47 = .ok (.iaload, 1) := by decide +kernel
theorem dX0_linkNeighbours_48 : decode cX0_linkNeighbours 48 = .ok (.iconst 1, 1) := by decide +kernel
theorem dX0_linkNeighbours_49 : decode cX0_linkNeighbours 49 = .ok (.iload_n 2, 1) := by decide +kernel
theorem dX0_linkNeighbours_50 : decode cX0_linkNeighbours 50 = .ok (.ishl, 1) := by decide +kernel
theorem dX0_linkNeighbours_51 : decode cX0_linkNeighbours 51 = .ok (.ior, 1) := by decide +kernel
theorem dX0_linkNeighbours_52 : decode cX0_linkNeighbours 52 = .ok (.iastore, 1) := by decide +kernel
theorem dX0_linkNeighbours_53 : decode cX0_linkNeighbours 53 = .ok (.iinc 2 1, 3) := by decide +kernel
theorem dX0_linkNeighbours_56 : decode cX0_linkNeighbours 56 = .ok (.goto (-34), 3) := by decide +kernel
theorem dX0_linkNeighbours_59 : decode cX0_linkNeighbours 59 = .ok (.iinc 1 1, 3) := by decide +kernel
theorem dX0_linkNeighbours_62 : decode cX0_linkNeighbours 62 = .ok (.goto (-60), 3) := by decide +kernel
theorem dX0_linkNeighbours_65 : decode cX0_linkNeighbours 65 = .ok (.return_, 1) := by decide +kernel
theorem dX0_addGroups_0 : decode cX0_addGroups 0 = .ok (.iload_n 1, 1) := by decide +kernel
theorem dX0_addGroups_1 : decode cX0_addGroups 1 = .ok (.istore_n 2, 1) := by decide +kernel
theorem dX0_addGroups_2 : decode cX0_addGroups 2 = .ok (.iconst 0, 1) := by decide +kernel
theorem dX0_addGroups_3 : decode cX0_addGroups 3 = .ok (.istore_n 3, 1) := by decide +kernel
theorem dX0_addGroups_4 : decode cX0_addGroups 4 = .ok (.iload_n 3, 1) := by decide +kernel
theorem dX0_addGroups_5 : decode cX0_addGroups 5 = .ok (.bipush 8, 2) := by decide +kernel
theorem dX0_addGroups_7 : decode cX0_addGroups 7 = .ok (.if_icmp .ge 38, 3) := by decide +kernel
theorem dX0_addGroups_10 : decode cX0_addGroups 10 = .ok (.iload_n 2, 1) := by decide +kernel
theorem dX0_addGroups_11 : decode cX0_addGroups 11 = .ok (.iload_n 3, 1) := by decide +kernel
theorem dX0_addGroups_12 : decode cX0_addGroups 12 = .ok (.invokestatic 70, 3) := by decide +kernel
theorem dX0_addGroups_15 : decode cX0_addGroups 15 = .ok (.ifCond .eq 24, 3) := by decide +kernel
theorem dX0_addGroups_18 : decode cX0_addGroups 18 = .ok (.aload_n 0, 1) := by decide +kernel
theorem dX0_addGroups_19 : decode cX0_addGroups 19 = .ok (.iload_n 3, 1) := by decide +kernel
theorem dX0_addGroups_20 : decode cX0_addGroups 20 = .ok (.iload_n 1, 1) := by decide +kernel
theorem dX0_addGroups_21 : decode cX0_addGroups 21 = .ok (.invokevirtual 126, 3) := by decide +kernel
theorem dX0_addGroups_24 : decode cX0_addGroups 24 = .ok (.istore 4, 2) := by decide +kernel
theorem dX0_addGroups_26 : decode cX0_addGroups 26 = .ok (.aload_n 0, 1) := by decide +kernel
theorem dX0_addGroups_27 : decode cX0_addGroups 27 = .ok (.iload 4, 2) := by decide +kernel
theorem dX0_addGroups_29 : decode cX0_addGroups 29 = .ok (.invokevirtual 82, 3) := by decide +kernel
theorem dX0_addGroups_32 : decode cX0_addGroups 32 = .ok (.iload_n 2, 1) := by decide +kernel
theorem dX0_addGroups_33 : decode cX0_addGroups 33 = .ok (.iload 4, 2) := by decide +kernel
theorem dX0_addGroups_35 : decode cX0_addGroups 35 = .ok (.iconst (-1), 1) := by decide +kernel
theorem dX0_addGroups_36 : decode cX0_addGroups 36 = .ok (.ixor, 1) := by decide +kernel
theorem dX0_addGroups_37 : decode cX0_addGroups 37 = .ok (.iand, 1) := by decide +kernel
theorem dX0_addGroups_38 : decode cX0_addGroups 38 = .ok (.istore_n 2, 1) := by decide +kernel
theorem dX0_addGroups_39 : decode cX0_addGroups 39 = .ok (.iinc 3 1, 3) := by decide +kernel
theorem dX0_addGroups_42 : decode cX0_addGroups 42 = .ok (.goto (-38), 3) := by decide +kernel
theorem dX0_addGroups_45 : decode cX0_addGroups 45 = .ok (.return_, 1) := by decide +kernel
theorem dX0_groupOf_0 : decode cX0_groupOf 0 = .ok (.iconst 1, 1) := by decide +kernel
theorem dX0_groupOf_1 : decode cX0_groupOf 1 = .ok (.iload_n 1, 1) := by decide +kernel
theorem dX0_groupOf_2 : decode cX0_groupOf 2 = .ok (.ishl, 1) := by decide +kernel
theorem dX0_groupOf_3 : decode cX0_groupOf 3 = .ok (.istore_n 3, 1) := by decide +kernel
theorem dX0_groupOf_4 : decode cX0_groupOf 4 = .ok (.iconst 0, 1) := by decide +kernel
theorem dX0_groupOf_5 : decode cX0_groupOf 5 = .ok (.istore 4, 2) := by decide +kernel
theorem dX0_groupOf_7 : decode cX0_groupOf 7 = .ok (.iload 4, 2) := by decide +kernel
theorem dX0_groupOf_9 : decode cX0_groupOf 9 = .ok (.bipush 8, 2) := by decide +kernel
theorem dX0_groupOf_11 : decode cX0_groupOf 11 = .ok (.if_icmp .ge 46, 3) := by decide +kernel
theorem dX0_groupOf_14 : decode cX0_groupOf 14 = .ok (.iconst 0, 1) := by decide +kernel
theorem dX0_groupOf_15 : decode cX0_groupOf 15 = .ok (.istore 5, 2) := by decide +kernel
theorem dX0_groupOf_17 : decode cX0_groupOf 17 = .ok (.iload 5, 2) := by decide +kernel
theorem dX0_groupOf_19 : decode cX0_groupOf 19 = .ok (.bipush 8, 2) := by decide +kernel
theorem dX0_groupOf_21 : decode cX0_groupOf 21 = .ok (.if_icmp .ge 30, 3) := by decide +kernel
theorem dX0_groupOf_24 : decode cX0_groupOf 24 = .ok (.iload_n 3, 1) := by decide +kernel
theorem dX0_groupOf_25 : decode cX0_groupOf 25 = .ok (.iload 5, 2) := by decide +kernel
theorem dX0_groupOf_27 : decode cX0_groupOf 27 = .ok (.invokestatic 70, 3) := by decide +kernel
theorem dX0_groupOf_30 : decode cX0_groupOf 30 = .ok (.ifCond .eq 15, 3) := by decide +kernel
theorem dX0_groupOf_33 : decode cX0_groupOf 33 = .ok (.iload_n 3, 1) := by decide +kernel
theorem dX0_groupOf_34 : decode cX0_groupOf 34 = .ok (.aload_n 0, 1) := by decide +kernel
theorem dX0_groupOf_35 : decode cX0_groupOf 35 = .ok (.getfield 44, 3) := by decide +kernel
theorem dX0_groupOf_38 : decode cX0_groupOf 38 = .ok (.iload 5, 2) := by decide +kernel
theorem dX0_groupOf_40 : decode cX0_groupOf 40 = .ok (.iaload, 1) := by decide +kernel
theorem dX0_groupOf_41 : decode cX0_groupOf 41 = .ok (.iload_n 2, 1) := by decide +kernel
theorem dX0_groupOf_42 : decode cX0_groupOf 42 = .ok (.iand, 1) := by decide +kernel
theorem dX0_groupOf_43 : decode cX0_groupOf 43 = .ok (.ior, 1) := by decide +kernel
theorem dX0_groupOf_44 : decode cX0_groupOf 44 = .ok (.istore_n 3, 1) := by decide +kernel
theorem dX0_groupOf_45 : decode cX0_groupOf 45 = .ok (.iinc 5 1, 3) := by decide +kernel
theorem dX0_groupOf_48 : decode cX0_groupOf 48 = .ok (.goto (-31), 3) := by decide +kernel
theorem dX0_groupOf_51 : decode cX0_groupOf 51 = .ok (.iinc 4 1, 3) := by decide +kernel
theorem dX0_groupOf_54 : decode cX0_groupOf 54 = .ok (.goto (-47), 3) := by decide +kernel
theorem dX0_groupOf_57 : decode cX0_groupOf 57 = .ok (.iload_n 3, 1) := by decide +kernel
theorem dX0_groupOf_58 : decode cX0_groupOf 58 = .ok (.ireturn, 1) := by decide +kernel
theorem dX0_sortByReach_0 : decode cX0_sortByReach 0 = .ok (.iconst 0, 1) := by decide +kernel
theorem dX0_sortByReach_1 : decode cX0_sortByReach 1 = .ok (.istore_n 1, 1) := by decide +kernel
theorem dX0_sortByReach_2 : decode cX0_sortByReach 2 = .ok (.iload_n 1, 1) := by decide +kernel
theorem dX0_sortByReach_3 : decode cX0_sortByReach 3 = .ok (.aload_n 0, 1) := by decide +kernel
theorem dX0_sortByReach_4 : decode cX0_sortByReach 4 = .ok (.getfield 50, 3) := by decide +kernel
theorem dX0_sortByReach_7 : decode cX0_sortByReach 7 = .ok (.if_icmp .ge 72, 3) := by decide +kernel
theorem dX0_sortByReach_10 : decode cX0_sortByReach 10 = .ok (.iload_n 1, 1) := by decide +kernel
theorem dX0_sortByReach_11 : decode cX0_sortByReach 11 = .ok (.iconst 1, 1) := by decide +kernel
theorem dX0_sortByReach_12 : decode cX0_sortByReach 12 = .ok (.iadd, 1) := by decide +kernel
theorem dX0_sortByReach_13 : decode cX0_sortByReach 13 = .ok (.istore_n 2, 1) := by decide +kernel
theorem dX0_sortByReach_14 : decode cX0_sortByReach 14 = .ok (.iload_n 2, 1) := by decide +kernel
theorem dX0_sortByReach_15 : decode cX0_sortByReach 15 = .ok (.aload_n 0, 1) := by decide +kernel
theorem dX0_sortByReach_16 : decode cX0_sortByReach 16 = .ok (.getfield 50, 3) := by decide +kernel
theorem dX0_sortByReach_19 : decode cX0_sortByReach 19 = .ok (.if_icmp .ge 54, 3) := by decide +kernel
theorem dX0_sortByReach_22 : decode cX0_sortByReach 22 = .ok (.aload_n 0, 1) := by decide +kernel
theorem dX0_sortByReach_23 : decode cX0_sortByReach 23 = .ok (.aload_n 0, 1) := by decide +kernel
theorem dX0_sortByReach_24 : decode cX0_sortByReach 24 = .ok (.getfield 47, 3) := by decide +kernel
theorem dX0_sortByReach_27 : decode cX0_sortByReach 27 = .ok (.iload_n 2, 1) := by decide +kernel
theorem dX0_sortByReach_28 : decode cX0_sortByReach 28 = .ok (.iaload, 1) := by decide +kernel
theorem dX0_sortByReach_29 : decode cX0_sortByReach 29 = .ok (.aload_n 0, 1) := by decide +kernel
theorem dX0_sortByReach_30 : decode cX0_sortByReach 30 = .ok (.getfield 47, 3) := by decide +kernel
theorem dX0_sortByReach_33 : decode cX0_sortByReach 33 = .ok (.iload_n 1, 1) := by decide +kernel
theorem dX0_sortByReach_34 : decode cX0_sortByReach 34 = .ok (.iaload, 1) := by decide +kernel
theorem dX0_sortByReach_35 : decode cX0_sortByReach 35 = .ok (.invokevirtual 130, 3) := by decide +kernel
theorem dX0_sortByReach_38 : decode cX0_sortByReach 38 = .ok (.ifCond .eq 29, 3) := by decide +kernel
theorem dX0_sortByReach_41 : decode cX0_sortByReach 41 = .ok (.aload_n 0, 1) := by decide +kernel
theorem dX0_sortByReach_42 : decode cX0_sortByReach 42 = .ok (.getfield 47, 3) := by decide +kernel
theorem dX0_sortByReach_45 : decode cX0_sortByReach 45 = .ok (.iload_n 1, 1) := by decide +kernel
theorem dX0_sortByReach_46 : decode cX0_sortByReach 46 = .ok (.iaload, 1) := by decide +kernel
theorem dX0_sortByReach_47 : decode cX0_sortByReach 47 = .ok (.istore_n 3, 1) := by decide +kernel
theorem dX0_sortByReach_48 : decode cX0_sortByReach 48 = .ok (.aload_n 0, 1) := by decide +kernel
theorem dX0_sortByReach_49 : decode cX0_sortByReach 49 = .ok (.getfield 47, 3) := by decide +kernel
theorem dX0_sortByReach_52 : decode cX0_sortByReach 52 = .ok (.iload_n 1, 1) := by decide +kernel
theorem dX0_sortByReach_53 : decode cX0_sortByReach 53 = .ok (.aload_n 0, 1) := by decide +kernel
theorem dX0_sortByReach_54 : decode cX0_sortByReach 54 = .ok (.getfield 47, 3) := by decide +kernel
theorem dX0_sortByReach_57 : decode cX0_sortByReach 57 = .ok (.iload_n 2, 1) := by decide +kernel
theorem dX0_sortByReach_58 : decode cX0_sortByReach 58 = .ok (.iaload, 1) := by decide +kernel
theorem dX0_sortByReach_59 : decode cX0_sortByReach 59 = .ok (.iastore, 1) := by decide +kernel
theorem dX0_sortByReach_60 : decode cX0_sortByReach 60 = .ok (.aload_n 0, 1) := by decide +kernel
theorem dX0_sortByReach_61 : decode cX0_sortByReach 61 = .ok (.getfield 47, 3) := by decide +kernel
theorem dX0_sortByReach_64 : decode cX0_sortByReach 64 = .ok (.iload_n 2, 1) := by decide +kernel
theorem dX0_sortByReach_65 : decode cX0_sortByReach 65 = .ok (.iload_n 3, 1) := by decide +kernel
theorem dX0_sortByReach_66 : decode cX0_sortByReach 66 = .ok (.iastore, 1) := by decide +kernel
theorem dX0_sortByReach_67 : decode cX0_sortByReach 67 = .ok (.iinc 2 1, 3) := by decide +kernel
theorem dX0_sortByReach_70 : decode cX0_sortByReach 70 = .ok (.goto (-56), 3) := by decide +kernel
theorem dX0_sortByReach_73 : decode cX0_sortByReach 73 = .ok (.iinc 1 1, 3) := by decide +kernel
theorem dX0_sortByReach_76 : decode cX0_sortByReach 76 = .ok (.goto (-74), 3) := by decide +kernel
theorem dX0_sortByReach_79 : decode cX0_sortByReach 79 = .ok (.return_, 1) := by decide +kernel
theorem dX0_leadsInto_0 : decode cX0_leadsInto 0 = .ok (.iconst 0, 1) := by decide +kernel
theorem dX0_leadsInto_1 : decode cX0_leadsInto 1 = .ok (.istore_n 3, 1) := by decide +kernel
theorem dX0_leadsInto_2 : decode cX0_leadsInto 2 = .ok (.iload_n 3, 1) := by decide +kernel
theorem dX0_leadsInto_3 : decode cX0_leadsInto 3 = .ok (.bipush 8, 2) := by decide +kernel
theorem dX0_leadsInto_5 : decode cX0_leadsInto 5 = .ok (.if_icmp .ge 30, 3) := by decide +kernel
theorem dX0_leadsInto_8 : decode cX0_leadsInto 8 = .ok (.iload_n 1, 1) := by decide +kernel
theorem dX0_leadsInto_9 : decode cX0_leadsInto 9 = .ok (.iload_n 3, 1) := by decide +kernel
theorem dX0_leadsInto_10 : decode cX0_leadsInto 10 = .ok (.invokestatic 70, 3) := by decide +kernel
theorem dX0_leadsInto_13 : decode cX0_leadsInto 13 = .ok (.ifCond .eq 16, 3) := by decide +kernel
theorem dX0_leadsInto_16 : decode cX0_leadsInto 16 = .ok (.aload_n 0, 1) := by decide +kernel
theorem dX0_leadsInto_17 : decode cX0_leadsInto 17 = .ok (.getfield 41, 3) := by decide +kernel
theorem dX0_leadsInto_20 : decode cX0_leadsInto 20 = .ok (.iload_n 3, 1) := by decide +kernel
theorem dX0_leadsInto_21 : decode cX0_leadsInto 21 = .ok (.iaload, 1) := by decide +kernel
theorem dX0_leadsInto_22 : decode cX0_leadsInto 22 = .ok (.iload_n 2, 1) := by decide +kernel
theorem dX0_leadsInto_23 : decode cX0_leadsInto 23 = .ok (.iand, 1) := by decide +kernel
theorem dX0_leadsInto_24 : decode cX0_leadsInto 24 = .ok (.ifCond .eq 5, 3) := by decide +kernel
theorem dX0_leadsInto_27 : decode cX0_leadsInto 27 = .ok (.iconst 1, 1) := by decide +kernel
theorem dX0_leadsInto_28 : decode cX0_leadsInto 28 = .ok (.ireturn, 1) := by decide +kernel
theorem dX0_leadsInto_29 : decode cX0_leadsInto 29 = .ok (.iinc 3 1, 3) := by decide +kernel
theorem dX0_leadsInto_32 : decode cX0_leadsInto 32 = .ok (.goto (-30), 3) := by decide +kernel
theorem dX0_leadsInto_35 : decode cX0_leadsInto 35 = .ok (.iconst 0, 1) := by decide +kernel
theorem dX0_leadsInto_36 : decode cX0_leadsInto 36 = .ok (.ireturn, 1) := by decide +kernel
theorem dX0_joinLacking_0 : decode cX0_joinLacking 0 = .ok (.iconst 0, 1) := by decide +kernel
theorem dX0_joinLacking_1 : decode cX0_joinLacking 1 = .ok (.istore_n 1, 1) := by decide +kernel
theorem dX0_joinLacking_2 : decode cX0_joinLacking 2 = .ok (.iload_n 1, 1) := by decide +kernel
theorem dX0_joinLacking_3 : decode cX0_joinLacking 3 = .ok (.bipush 8, 2) := by decide +kernel
theorem dX0_joinLacking_5 : decode cX0_joinLacking 5 = .ok (.if_icmp .ge 40, 3) := by decide +kernel
theorem dX0_joinLacking_8 : decode cX0_joinLacking 8 = .ok (.aload_n 0, 1) := by decide +kernel
theorem dX0_joinLacking_9 : decode cX0_joinLacking 9 = .ok (.invokevirtual 133, 3) := by decide +kernel
theorem dX0_joinLacking_12 : decode cX0_joinLacking 12 = .ok (.istore_n 2, 1) := by decide +kernel
theorem dX0_joinLacking_13 : decode cX0_joinLacking 13 = .ok (.iload_n 2, 1) := by decide +kernel
theorem dX0_joinLacking_14 : decode cX0_joinLacking 14 = .ok (.ifCond .lt 11, 3) := by decide +kernel
theorem dX0_joinLacking_17 : decode cX0_joinLacking 17 = .ok (.aload_n 0, 1) := by decide +kernel
theorem dX0_joinLacking_18 : decode cX0_joinLacking 18 = .ok (.getfield 50, 3) := by decide +kernel
theorem dX0_joinLacking_21 : decode cX0_joinLacking 21 = .ok (.iconst 2, 1) := by decide +kernel
theorem dX0_joinLacking_22 : decode cX0_joinLacking 22 = .ok (.if_icmp .ge 4, 3) := by decide +kernel
theorem dX0_joinLacking_25 : decode cX0_joinLacking 25 = .ok (.return_, 1) := by decide +kernel
theorem dX0_joinLacking_26 : decode cX0_joinLacking 26 = .ok (.aload_n 0, 1) := by decide +kernel
theorem dX0_joinLacking_27 : decode cX0_joinLacking 27 = .ok (.iload_n 2, 1) := by decide +kernel
theorem dX0_joinLacking_28 : decode cX0_joinLacking 28 = .ok (.ifCond .ne 7, 3) := by decide +kernel
theorem dX0_joinLacking_31 : decode cX0_joinLacking 31 = .ok (.iconst 1, 1) := by decide +kernel
theorem dX0_joinLacking_32 : decode cX0_joinLacking 32 = .ok (.goto 4, 3) := by decide +kernel
theorem dX0_joinLacking_35 : decode cX0_joinLacking 35 = .ok (.iload_n 2, 1) := by decide +kernel
theorem dX0_joinLacking_36 : decode cX0_joinLacking 36 = .ok (.invokevirtual 136, 3) := by decide +kernel
theorem dX0_joinLacking_39 : decode cX0_joinLacking 39 = .ok (.iinc 1 1, 3) := by decide +kernel
theorem dX0_joinLacking_42 : decode cX0_joinLacking 42 = .ok (.goto (-40), 3) := by decide +kernel
theorem dX0_joinLacking_45 : decode cX0_joinLacking 45 = .ok (.return_, 1) := by decide +kernel
theorem dX0_firstLacking_0 : decode cX0_firstLacking 0 = .ok (.iconst 0, 1) := by decide +kernel
theorem dX0_firstLacking_1 : decode cX0_firstLacking 1 = .ok (.istore_n 1, 1) := by decide +kernel
theorem dX0_firstLacking_2 : decode cX0_firstLacking 2 = .ok (.iload_n 1, 1) := by decide +kernel
theorem dX0_firstLacking_3 : decode cX0_firstLacking 3 = .ok (.aload_n 0, 1) := by decide +kernel
theorem dX0_firstLacking_4 : decode cX0_firstLacking 4 = .ok (.getfield 50, 3) := by decide +kernel
theorem dX0_firstLacking_7 : decode cX0_firstLacking 7 = .ok (.if_icmp .ge 39, 3) := by decide +kernel
theorem dX0_firstLacking_10 : decode cX0_firstLacking 10 = .ok (.aload_n 0, 1) := by decide +kernel
theorem dX0_firstLacking_11 : decode cX0_firstLacking 11 = .ok (.getfield 47, 3) := by decide +kernel
theorem dX0_firstLacking_14 : decode cX0_firstLacking 14 = .ok (.iload_n 1, 1) := by decide +kernel
theorem dX0_firstLacking_15 : decode cX0_firstLacking 15 = .ok (.iaload, 1) := by decide +kernel
theorem dX0_firstLacking_16 : decode cX0_firstLacking 16 = .ok (.aload_n 0, 1) := by decide +kernel
theorem dX0_firstLacking_17 : decode cX0_firstLacking 17 = .ok (.getfield 28, 3) := by decide +kernel
theorem dX0_firstLacking_20 : decode cX0_firstLacking 20 = .ok (.iand, 1) := by decide +kernel
theorem dX0_firstLacking_21 : decode cX0_firstLacking 21 = .ok (.ifCond .eq 17, 3) := by decide +kernel
theorem dX0_firstLacking_24 : decode cX0_firstLacking 24 = .ok (.aload_n 0, 1) := by decide +kernel
theorem dX0_firstLacking_25 : decode cX0_firstLacking 25 = .ok (.getfield 47, 3) := by decide +kernel
theorem dX0_firstLacking_28 : decode cX0_firstLacking 28 = .ok (.iload_n 1, 1) := by decide +kernel
theorem dX0_firstLacking_29 : decode cX0_firstLacking 29 = .ok (.iaload, 1) := by decide +kernel
theorem dX0_firstLacking_30 : decode cX0_firstLacking 30 = .ok (.aload_n 0, 1) := by decide +kernel
theorem dX0_firstLacking_31 : decode cX0_firstLacking 31 = .ok (.getfield 31, 3) := by decide +kernel
theorem dX0_firstLacking_34 : decode cX0_firstLacking 34 = .ok (.iand, 1) := by decide +kernel
theorem dX0_firstLacking_35 : decode cX0_firstLacking 35 = .ok (.ifCond .ne 5, 3) := by decide +kernel
theorem dX0_firstLacking_38 : decode cX0_firstLacking 38 = .ok (.iload_n 1, 1) := by decide +kernel
theorem dX0_firstLacking_39 : decode cX0_firstLacking 39 = .ok (.ireturn, 1) := by decide +kernel
theorem dX0_firstLacking_40 : decode cX0_firstLacking 40 = .ok (.iinc 1 1, 3) := by decide +kernel
theorem dX0_firstLacking_43 : decode cX0_firstLacking 43 = .ok (.goto (-41), 3) := by decide +kernel
theorem dX0_firstLacking_46 : decode cX0_firstLacking 46 = .ok (.iconst (-1), 1) := by decide +kernel
theorem dX0_firstLacking_47 : decode cX0_firstLacking 47 = .ok (.ireturn, 1) := by decide +kernel
theorem dX0_joinToFirst_0 : decode cX0_joinToFirst 0 = .ok (.aload_n 0, 1) := by decide +kernel
theorem dX0_joinToFirst_1 : decode cX0_joinToFirst 1 = .ok (.getfield 47, 3) := by decide +kernel
theorem dX0_joinToFirst_4 : decode cX0_joinToFirst 4 = .ok (.iconst 0, 1) := by decide +kernel
theorem dX0_joinToFirst_5 : decode cX0_joinToFirst 5 = .ok (.dup2, 1) := by decide +kernel
theorem dX0_joinToFirst_6 : decode cX0_joinToFirst 6 = .ok (.iaload, 1) := by decide +kernel
theorem dX0_joinToFirst_7 : decode cX0_joinToFirst 7 = .ok (.aload_n 0, 1) := by decide +kernel
theorem dX0_joinToFirst_8 : decode cX0_joinToFirst 8 = .ok (.getfield 47, 3) := by decide +kernel
theorem dX0_joinToFirst_11 : decode cX0_joinToFirst 11 = .ok (.iload_n 1, 1) := by decide +kernel
theorem dX0_joinToFirst_12 : decode cX0_joinToFirst 12 = .ok (.iaload, 1) := by decide +kernel
theorem dX0_joinToFirst_13 : decode cX0_joinToFirst 13 = .ok (.ior, 1) := by decide +kernel
theorem dX0_joinToFirst_14 : decode cX0_joinToFirst 14 = .ok (.iastore, 1) := by decide +kernel
theorem dX0_joinToFirst_15 : decode cX0_joinToFirst 15 = .ok (.aload_n 0, 1) := by decide +kernel
theorem dX0_joinToFirst_16 : decode cX0_joinToFirst 16 = .ok (.dup, 1) := by decide +kernel
theorem dX0_joinToFirst_17 : decode cX0_joinToFirst 17 = .ok (.getfield 50, 3) := by decide +kernel
theorem dX0_joinToFirst_20 : decode cX0_joinToFirst 20 = .ok (.iconst 1, 1) := by decide +kernel
theorem dX0_joinToFirst_21 : decode cX0_joinToFirst 21 = .ok (.isub, 1) := by decide +kernel
theorem dX0_joinToFirst_22 : decode cX0_joinToFirst 22 = .ok (.putfield 50, 3) := by decide +kernel
theorem dX0_joinToFirst_25 : decode cX0_joinToFirst 25 = .ok (.iload_n 1, 1) := by decide +kernel
theorem dX0_joinToFirst_26 : decode cX0_joinToFirst 26 = .ok (.istore_n 2, 1) := by decide +kernel
theorem dX0_joinToFirst_27 : decode cX0_joinToFirst 27 = .ok (.iload_n 2, 1) := by decide +kernel
theorem dX0_joinToFirst_28 : decode cX0_joinToFirst 28 = .ok (.aload_n 0, 1) := by decide +kernel
theorem dX0_joinToFirst_29 : decode cX0_joinToFirst 29 = .ok (.getfield 50, 3) := by decide +kernel
theorem dX0_joinToFirst_32 : decode cX0_joinToFirst 32 = .ok (.if_icmp .ge 23, 3) := by decide +kernel
theorem dX0_joinToFirst_35 : decode cX0_joinToFirst 35 = .ok (.aload_n 0, 1) := by decide +kernel
theorem dX0_joinToFirst_36 : decode cX0_joinToFirst 36 = .ok (.getfield 47, 3) := by decide +kernel
theorem dX0_joinToFirst_39 : decode cX0_joinToFirst 39 = .ok (.iload_n 2, 1) := by decide +kernel
theorem dX0_joinToFirst_40 : decode cX0_joinToFirst 40 = .ok (.aload_n 0, 1) := by decide +kernel
theorem dX0_joinToFirst_41 : decode cX0_joinToFirst 41 = .ok (.getfield 47, 3) := by decide +kernel
theorem dX0_joinToFirst_44 : decode cX0_joinToFirst 44 = .ok (.iload_n 2, 1) := by decide +kernel
theorem dX0_joinToFirst_45 : decode cX0_joinToFirst 45 = .ok (.iconst 1, 1) := by decide +kernel
theorem dX0_joinToFirst_46 : decode cX0_joinToFirst 46 = .ok (.iadd, 1) := by decide +kernel
theorem dX0_joinToFirst_47 : decode cX0_joinToFirst 47 = .ok (.iaload, 1) := by decide +kernel
theorem dX0_joinToFirst_48 : decode cX0_joinToFirst 48 = .ok (.iastore, 1) := by decide +kernel
theorem dX0_joinToFirst_49 : decode cX0_joinToFirst 49 = .ok (.iinc 2 1, 3) := by decide +kernel
theorem dX0_joinToFirst_52 : decode cX0_joinToFirst 52 = .ok (.goto (-25), 3) := by decide +kernel
theorem dX0_joinToFirst_55 : decode cX0_joinToFirst 55 = .ok (.return_, 1) := by decide +kernel
theorem dX0_belongsToFirst_0 : decode cX0_belongsToFirst 0 = .ok (.aload_n 0, 1) := by decide +kernel
theorem dX0_belongsToFirst_1 : decode cX0_belongsToFirst 1 = .ok (.getfield 28, 3) := by decide +kernel
theorem dX0_belongsToFirst_4 : decode cX0_belongsToFirst 4 = .ok (.aload_n 0, 1) := by decide +kernel
theorem dX0_belongsToFirst_5 : decode cX0_belongsToFirst 5 = .ok (.getfield 31, 3) := by decide +kernel
theorem dX0_belongsToFirst_8 : decode cX0_belongsToFirst 8 = .ok (.iconst (-1), 1) := by decide +kernel
theorem dX0_belongsToFirst_9 : decode cX0_belongsToFirst 9 = .ok (.ixor, 1) := by decide +kernel
theorem dX0_belongsToFirst_10 : decode cX0_belongsToFirst 10 = .ok (.iand, 1) := by decide +kernel
theorem dX0_belongsToFirst_11 : decode cX0_belongsToFirst 11 = .ok (.istore_n 2, 1) := by decide +kernel
theorem dX0_belongsToFirst_12 : decode cX0_belongsToFirst 12 = .ok (.aload_n 0, 1) := by decide +kernel
theorem dX0_belongsToFirst_13 : decode cX0_belongsToFirst 13 = .ok (.getfield 31, 3) := by decide +kernel
theorem dX0_belongsToFirst_16 : decode cX0_belongsToFirst 16 = .ok (.aload_n 0, 1) := by decide +kernel
theorem dX0_belongsToFirst_17 : decode cX0_belongsToFirst 17 = .ok (.getfield 28, 3) := by decide +kernel
theorem dX0_belongsToFirst_20 : decode cX0_belongsToFirst 20 = .ok (.iconst (-1), 1) := by decide +kernel
theorem dX0_belongsToFirst_21 : decode cX0_belongsToFirst 21 = .ok (.ixor, 1) := by decide +kernel
theorem dX0_belongsToFirst_22 : decode cX0_belongsToFirst 22 = .ok (.iand, 1) := by decide +kernel
theorem dX0_belongsToFirst_23 : decode cX0_belongsToFirst 23 = .ok (.istore_n 3, 1) := by decide +kernel
theorem dX0_belongsToFirst_24 : decode cX0_belongsToFirst 24 = .ok (.iconst 0, 1) := by decide +kernel
theorem dX0_belongsToFirst_25 : decode cX0_belongsToFirst 25 = .ok (.istore 4, 2) := by decide +kernel
theorem dX0_belongsToFirst_27 : decode cX0_belongsToFirst 27 = .ok (.iload 4, 2) := by decide +kernel
theorem dX0_belongsToFirst_29 : decode cX0_belongsToFirst 29 = .ok (.bipush 8, 2) := by decide +kernel
theorem dX0_belongsToFirst_31 : decode cX0_belongsToFirst 31 = .ok (.if_icmp .ge 55, 3) := by decide +kernel
theorem dX0_belongsToFirst_34 : decode cX0_belongsToFirst 34 = .ok (.iload_n 2, 1) := by decide +kernel
theorem dX0_belongsToFirst_35 : decode cX0_belongsToFirst 35 = .ok (.iload 4, 2) := by decide +kernel
theorem dX0_belongsToFirst_37 : decode cX0_belongsToFirst 37 = .ok (.invokestatic 70, 3) := by decide +kernel
theorem dX0_belongsToFirst_40 : decode cX0_belongsToFirst 40 = .ok (.ifCond .eq 17, 3) := by decide +kernel
theorem dX0_belongsToFirst_43 : decode cX0_belongsToFirst 43 = .ok (.aload_n 0, 1) := by decide +kernel
theorem dX0_belongsToFirst_44 : decode cX0_belongsToFirst 44 = .ok (.getfield 38, 3) := by decide +kernel
theorem dX0_belongsToFirst_47 : decode cX0_belongsToFirst 47 = .ok (.iload 4, 2) := by decide +kernel
theorem dX0_belongsToFirst_49 : decode cX0_belongsToFirst 49 = .ok (.iaload, 1) := by decide +kernel
theorem dX0_belongsToFirst_50 : decode cX0_belongsToFirst 50 = .ok (.iload_n 1, 1) := by decide +kernel
theorem dX0_belongsToFirst_51 : decode cX0_belongsToFirst 51 = .ok (.iand, 1) := by decide +kernel
theorem dX0_belongsToFirst_52 : decode cX0_belongsToFirst 52 = .ok (.ifCond .eq 5, 3) := by decide +kernel
theorem dX0_belongsToFirst_55 : decode cX0_belongsToFirst 55 = .ok (.iconst 1, 1) := by decide +kernel
theorem dX0_belongsToFirst_56 : decode cX0_belongsToFirst 56 = .ok (.ireturn, 1) := by decide +kernel
theorem dX0_belongsToFirst_57 : decode cX0_belongsToFirst 57 = .ok (.iload_n 1, 1) := by decide +kernel
theorem dX0_belongsToFirst_58 : decode cX0_belongsToFirst 58 = .ok (.iload 4, 2) := by decide +kernel
theorem dX0_belongsToFirst_60 : decode cX0_belongsToFirst 60 = .ok (.invokestatic 70, 3) := by decide +kernel
theorem dX0_belongsToFirst_63 : decode cX0_belongsToFirst 63 = .ok (.ifCond .eq 17, 3) := by decide +kernel
theorem dX0_belongsToFirst_66 : decode cX0_belongsToFirst 66 = .ok (.aload_n 0, 1) := by decide +kernel
theorem dX0_belongsToFirst_67 : decode cX0_belongsToFirst 67 = .ok (.getfield 38, 3) := by decide +kernel
theorem dX0_belongsToFirst_70 : decode cX0_belongsToFirst 70 = .ok (.iload 4, 2) := by decide +kernel
theorem dX0_belongsToFirst_72 : decode cX0_belongsToFirst 72 = .ok (.iaload, 1) := by decide +kernel
theorem dX0_belongsToFirst_73 : decode cX0_belongsToFirst 73 = .ok (.iload_n 3, 1) := by decide +kernel
theorem dX0_belongsToFirst_74 : decode cX0_belongsToFirst 74 = .ok (.iand, 1) := by decide +kernel
theorem dX0_belongsToFirst_75 : decode cX0_belongsToFirst 75 = .ok (.ifCond .eq 5, 3) := by decide +kernel
theorem dX0_belongsToFirst_78 : decode cX0_belongsToFirst 78 = .ok (.iconst 1, 1) := by decide +kernel
theorem dX0_belongsToFirst_79 : decode cX0_belongsToFirst 79 = .ok (.ireturn, 1) := by decide +kernel
theorem dX0_belongsToFirst_80 : decode cX0_belongsToFirst 80 = .ok (.iinc 4 1, 3) := by decide +kernel
theorem dX0_belongsToFirst_83 : decode cX0_belongsToFirst 83 = .ok (.goto (-56), 3) := by decide +kernel
theorem dX0_belongsToFirst_86 : decode cX0_belongsToFirst 86 = .ok (.iconst 0, 1) := by decide +kernel
theorem dX0_belongsToFirst_87 : decode cX0_belongsToFirst 87 = .ok (.ireturn, 1) := by decide +kernel
end
section
theorem dX1_init_0 : decode cX1_init 0 = .ok (.aload_n 0, 1) := by decide +kernel
theorem dX1_init_1 : decode cX1_init 1 = .ok (.invokespecial 3, 3) := by decide +kernel
theorem dX1_init_4 : decode cX1_init 4 = .ok (.aload_n 0, 1) := by decide +kernel
theorem dX1_init_5 : decode cX1_init 5 = .ok (.bipush 12, 2) := by decide +kernel
theorem dX1_init_7 : decode cX1_init 7 = .ok (.newarray .int, 2) := by decide +kernel
theorem dX1_init_9 : decode cX1_init 9 = .ok (.putfield 9, 3) := by decide +kernel
theorem dX1_init_12 : decode cX1_init 12 = .ok (.aload_n 0, 1) := by decide +kernel
theorem dX1_init_13 : decode cX1_init 13 = .ok (.iconst 0, 1) := by decide +kernel
theorem dX1_init_14 : decode cX1_init 14 = .ok (.putfield 15, 3) := by decide +kernel
theorem dX1_init_17 : decode cX1_init 17 = .ok (.aload_n 0, 1) := by decide +kernel
theorem dX1_init_18 : decode cX1_init 18 = .ok (.sipush 832, 3) := by decide +kernel
theorem dX1_init_21 : decode cX1_init 21 = .ok (.newarray .int, 2) := by decide +kernel
theorem dX1_init_23 : decode cX1_init 23 = .ok (.putfield 19, 3) := by decide +kernel
theorem dX1_init_26 : decode cX1_init 26 = .ok (.aload_n 0, 1) := by decide +kernel
theorem dX1_init_27 : decode cX1_init 27 = .ok (.aload_n 1, 1) := by decide +kernel
theorem dX1_init_28 : decode cX1_init 28 = .ok (.putfield 22, 3) := by decide +kernel
theorem dX1_init_31 : decode cX1_init 31 = .ok (.return_, 1) := by decide +kernel
theorem dX1_matches_0 : decode cX1_matches 0 = .ok (.iconst 0, 1) := by decide +kernel
theorem dX1_matches_1 : decode cX1_matches 1 = .ok (.istore 4, 2) := by decide +kernel
theorem dX1_matches_3 : decode cX1_matches 3 = .ok (.iconst 0, 1) := by decide +kernel
theorem dX1_matches_4 : decode cX1_matches 4 = .ok (.istore 5, 2) := by decide +kernel
theorem dX1_matches_6 : decode cX1_matches 6 = .ok (.iload 5, 2) := by decide +kernel
theorem dX1_matches_8 : decode cX1_matches 8 = .ok (.iload_n 3, 1) := by decide +kernel
theorem dX1_matches_9 : decode cX1_matches 9 = .ok (.if_icmp .ge 36, 3) := by decide +kernel
theorem dX1_matches_12 : decode cX1_matches 12 = .ok (.aload_n 0, 1) := by decide +kernel
theorem dX1_matches_13 : decode cX1_matches 13 = .ok (.getfield 9, 3) := by decide +kernel
theorem dX1_matches_16 : decode cX1_matches 16 = .ok (.iload 5, 2) := by decide +kernel
theorem dX1_matches_18 : decode cX1_matches 18 = .ok (.iconst 1, 1) := by decide +kernel
theorem dX1_matches_19 : decode cX1_matches 19 = .ok (.aload_n 1, 1) := by decide +kernel
theorem dX1_matches_20 : decode cX1_matches 20 = .ok (.iload_n 2, 1) := by decide +kernel
theorem dX1_matches_21 : decode cX1_matches 21 = .ok (.iload 5, 2) := by decide +kernel
theorem dX1_matches_23 : decode cX1_matches 23 = .ok (.iadd, 1) := by decide +kernel
theorem dX1_matches_24 : decode cX1_matches 24 = .ok (.iaload, 1) := by decide +kernel
theorem dX1_matches_25 : decode cX1_matches 25 = .ok (.ishl, 1) := by decide +kernel
theorem dX1_matches_26 : decode cX1_matches 26 = .ok (.iastore, 1) := by decide +kernel
theorem dX1_matches_27 : decode cX1_matches 27 = .ok (.iload 4, 2) := by decide +kernel
theorem dX1_matches_29 : decode cX1_matches 29 = .ok (.aload_n 0, 1) := by decide +kernel
theorem dX1_matches_30 : decode cX1_matches 30 = .ok (.getfield 9, 3) := by decide +kernel
theorem dX1_matches_33 : decode cX1_matches 33 = .ok (.iload 5, 2) := by decide +kernel
theorem dX1_matches_35 : decode cX1_matches 35 = .ok (.iaload, 1) := by decide +kernel
theorem dX1_matches_36 : decode cX1_matches 36 = .ok (.ior, 1) := by decide +kernel
theorem dX1_matches_37 : decode cX1_matches 37 = .ok (.istore 4, 2) := by decide +kernel
theorem dX1_matches_39 : decode cX1_matches 39 = .ok (.iinc 5 1, 3) := by decide +kernel
theorem dX1_matches_42 : decode cX1_matches 42 = .ok (.goto (-36), 3) := by decide +kernel
theorem dX1_matches_45 : decode cX1_matches 45 = .ok (.aload_n 0, 1) := by decide +kernel
theorem dX1_matches_46 : decode cX1_matches 46 = .ok (.iload_n 3, 1) := by decide +kernel
theorem dX1_matches_47 : decode cX1_matches 47 = .ok (.putfield 15, 3) := by decide +kernel
theorem dX1_matches_50 : decode cX1_matches 50 = .ok (.iload 4, 2) := by decide +kernel
theorem dX1_matches_52 : decode cX1_matches 52 = .ok (.aload_n 0, 1) := by decide +kernel
theorem dX1_matches_53 : decode cX1_matches 53 = .ok (.getfield 22, 3) := by decide +kernel
theorem dX1_matches_56 : decode cX1_matches 56 = .ok (.getfield 26, 3) := by decide +kernel
theorem dX1_matches_59 : decode cX1_matches 59 = .ok (.iconst 0, 1) := by decide +kernel
theorem dX1_matches_60 : decode cX1_matches 60 = .ok (.iaload, 1) := by decide +kernel
theorem dX1_matches_61 : decode cX1_matches 61 = .ok (.iconst (-1), 1) := by decide +kernel
theorem dX1_matches_62 : decode cX1_matches 62 = .ok (.ixor, 1) := by decide +kernel
theorem dX1_matches_63 : decode cX1_matches 63 = .ok (.iand, 1) := by decide +kernel
theorem dX1_matches_64 : decode cX1_matches 64 = .ok (.ifCond .eq 5, 3) := by decide +kernel
theorem dX1_matches_67 : decode cX1_matches 67 = .ok (.iconst 0, 1) := by decide +kernel
theorem dX1_matches_68 : decode cX1_matches 68 = .ok (.ireturn, 1) := by decide +kernel
theorem dX1_matches_69 : decode cX1_matches 69 = .ok (.aload_n 0, 1) := by decide +kernel
theorem dX1_matches_70 : decode cX1_matches 70 = .ok (.getfield 15, 3) := by decide +kernel
theorem dX1_matches_73 : decode cX1_matches 73 = .ok (.istore 5, 2) := by decide +kernel
theorem dX1_matches_75 : decode cX1_matches 75 = .ok (.iload 5, 2) := by decide +kernel
theorem dX1_matches_77 : decode cX1_matches 77 = .ok (.ifCond .lt 15, 3) := by decide +kernel
theorem dX1_matches_80 : decode cX1_matches 80 = .ok (.aload_n 0, 1) := by decide +kernel
theorem dX1_matches_81 : decode cX1_matches 81 = .ok (.iload 5, 2) := by decide +kernel
theorem dX1_matches_83 : decode cX1_matches 83 = .ok (.invokevirtual 31, 3) := by decide +kernel
theorem dX1_matches_86 : decode cX1_matches 86 = .ok (.iinc 5 (-1), 3) := by decide +kernel
theorem dX1_matches_89 : decode cX1_matches 89 = .ok (.goto (-14), 3) := by decide +kernel
theorem dX1_matches_92 : decode cX1_matches 92 = .ok (.aload_n 0, 1) := by decide +kernel
theorem dX1_matches_93 : decode cX1_matches 93 = .ok (.invokevirtual 35, 3) := by decide +kernel
theorem dX1_matches_96 : decode cX1_matches 96 = .ok (.ireturn, 1) := by decide +kernel
theorem dX1_countWords_0 : decode cX1_countWords 0 = .ok (.aload_n 0, 1) := by decide +kernel
theorem dX1_countWords_1 : decode cX1_countWords 1 = .ok (.iload_n 1, 1) := by decide +kernel
theorem dX1_countWords_2 : decode cX1_countWords 2 = .ok (.putfield 15, 3) := by decide +kernel
theorem dX1_countWords_5 : decode cX1_countWords 5 = .ok (.aload_n 0, 1) := by decide +kernel
theorem dX1_countWords_6 : decode cX1_countWords 6 = .ok (.iload_n 1, 1) := by decide +kernel
theorem dX1_countWords_7 : decode cX1_countWords 7 = .ok (.invokevirtual 31, 3) := by decide +kernel
theorem dX1_countWords_10 : decode cX1_countWords 10 = .ok (.aload_n 0, 1) := by decide +kernel
theorem dX1_countWords_11 : decode cX1_countWords 11 = .ok (.iload_n 1, 1) := by decide +kernel
theorem dX1_countWords_12 : decode cX1_countWords 12 = .ok (.iconst 1, 1) := by decide +kernel
theorem dX1_countWords_13 : decode cX1_countWords 13 = .ok (.isub, 1) := by decide +kernel
theorem dX1_countWords_14 : decode cX1_countWords 14 = .ok (.invokestatic 39, 3) := by decide +kernel
theorem dX1_countWords_17 : decode cX1_countWords 17 = .ok (.ireturn, 1) := by decide +kernel
theorem dX1_countSpelt_0 : decode cX1_countSpelt 0 = .ok (.iload_n 1, 1) := by decide +kernel
theorem dX1_countSpelt_1 : decode cX1_countSpelt 1 = .ok (.ifCond .lt 9, 3) := by decide +kernel
theorem dX1_countSpelt_4 : decode cX1_countSpelt 4 = .ok (.iload_n 1, 1) := by decide +kernel
theorem dX1_countSpelt_5 : decode cX1_countSpelt 5 = .ok (.bipush 12, 2) := by decide +kernel
theorem dX1_countSpelt_7 : decode cX1_countSpelt 7 = .ok (.if_icmp .lt 16, 3) := by decide +kernel
theorem dX1_countSpelt_10 : decode cX1_countSpelt 10 = .ok (.aload_n 0, 1) := by decide +kernel
theorem dX1_countSpelt_11 : decode cX1_countSpelt 11 = .ok (.invokevirtual 35, 3) := by decide +kernel
theorem dX1_countSpelt_14 : decode cX1_countSpelt 14 = .ok (.ifCond .eq 7, 3) := by decide +kernel
theorem dX1_countSpelt_17 : decode cX1_countSpelt 17 = .ok (.iconst 1, 1) := by decide +kernel
theorem dX1_countSpelt_18 : decode cX1_countSpelt 18 = .ok (.goto 4, 3) := by decide +kernel
theorem dX1_countSpelt_21 : decode cX1_countSpelt 21 = .ok (.iconst 0, 1) := by decide +kernel
theorem dX1_countSpelt_22 : decode cX1_countSpelt 22 = .ok (.ireturn, 1) := by decide +kernel
theorem dX1_countSpelt_23 : decode cX1_countSpelt 23 = .ok (.iconst 0, 1) := by decide +kernel
theorem dX1_countSpelt_24 : decode cX1_countSpelt 24 = .ok (.istore_n 2, 1) := by decide +kernel
theorem dX1_countSpelt_25 : decode cX1_countSpelt 25 = .ok (.iconst 0, 1) := by decide +kernel
theorem dX1_countSpelt_26 : decode cX1_countSpelt 26 = .ok (.istore_n 3, 1) := by decide +kernel
theorem dX1_countSpelt_27 : decode cX1_countSpelt 27 = .ok (.iload_n 3, 1) := by decide +kernel
theorem dX1_countSpelt_28 : decode cX1_countSpelt 28 = .ok (.bipush 8, 2) := by decide +kernel
theorem dX1_countSpelt_30 : decode cX1_countSpelt 30 = .ok (.if_icmp .ge 49, 3) := by decide +kernel
theorem dX1_countSpelt_33 : decode cX1_countSpelt 33 = .ok (.aload_n 0, 1) := by decide +kernel
theorem dX1_countSpelt_34 : decode cX1_countSpelt 34 = .ok (.getfield 22, 3) := by decide +kernel
theorem dX1_countSpelt_37 : decode cX1_countSpelt 37 = .ok (.getfield 26, 3) := by decide +kernel
theorem dX1_countSpelt_40 : decode cX1_countSpelt 40 = .ok (.iconst 0, 1) := by decide +kernel
theorem dX1_countSpelt_41 : decode cX1_countSpelt 41 = .ok (.iaload, 1) := by decide +kernel
theorem dX1_countSpelt_42 : decode cX1_countSpelt 42 = .ok (.iload_n 3, 1) := by decide +kernel
theorem dX1_countSpelt_43 : decode cX1_countSpelt 43 = .ok (.invokestatic 43, 3) := by decide +kernel
theorem dX1_countSpelt_46 : decode cX1_countSpelt 46 = .ok (.ifCond .eq 27, 3) := by decide +kernel
theorem dX1_countSpelt_49 : decode cX1_countSpelt 49 = .ok (.aload_n 0, 1) := by decide +kernel
theorem dX1_countSpelt_50 : decode cX1_countSpelt 50 = .ok (.getfield 9, 3) := by decide +kernel
theorem dX1_countSpelt_53 : decode cX1_countSpelt 53 = .ok (.iload_n 1, 1) := by decide +kernel
theorem dX1_countSpelt_54 : decode cX1_countSpelt 54 = .ok (.iconst 1, 1) := by decide +kernel
theorem dX1_countSpelt_55 : decode cX1_countSpelt 55 = .ok (.iload_n 3, 1) := by decide +kernel
theorem dX1_countSpelt_56 : decode cX1_countSpelt 56 = .ok (.ishl, 1) := by decide +kernel
theorem dX1_countSpelt_57 : decode cX1_countSpelt 57 = .ok (.iastore, 1) := by decide +kernel
theorem dX1_countSpelt_58 : decode cX1_countSpelt 58 = .ok (.aload_n 0, 1) := by decide +kernel
theorem dX1_countSpelt_59 : decode cX1_countSpelt 59 = .ok (.iload_n 1, 1) := by decide +kernel
theorem dX1_countSpelt_60 : decode cX1_countSpelt 60 = .ok (.invokevirtual 31, 3) := by decide +kernel
theorem dX1_countSpelt_63 : decode cX1_countSpelt 63 = .ok (.iload_n 2, 1) := by decide +kernel
theorem dX1_countSpelt_64 : decode cX1_countSpelt 64 = .ok (.aload_n 0, 1) := by decide +kernel
theorem dX1_countSpelt_65 : decode cX1_countSpelt 65 = .ok (.iload_n 1, 1) := by decide +kernel
theorem dX1_countSpelt_66 : decode cX1_countSpelt 66 = .ok (.iconst 1, 1) := by decide +kernel
theorem dX1_countSpelt_67 : decode cX1_countSpelt 67 = .ok (.isub, 1) := by decide +kernel
theorem dX1_countSpelt_68 : decode cX1_countSpelt 68 = .ok (.invokestatic 39, 3) := by decide +kernel
theorem dX1_countSpelt_71 : decode cX1_countSpelt 71 = .ok (.iadd, 1) := by decide +kernel
theorem dX1_countSpelt_72 : decode cX1_countSpelt 72 = .ok (.istore_n 2, 1) := by decide +kernel
theorem dX1_countSpelt_73 : decode cX1_countSpelt 73 = .ok (.iinc 3 1, 3) := by decide +kernel
theorem dX1_countSpelt_76 : decode cX1_countSpelt 76 = .ok (.goto (-49), 3) := by decide +kernel
theorem dX1_countSpelt_79 : decode cX1_countSpelt 79 = .ok (.iload_n 2, 1) := by decide +kernel
theorem dX1_countSpelt_80 : decode cX1_countSpelt 80 = .ok (.ireturn, 1) := by decide +kernel
theorem dX1_isWhole_0 : decode cX1_isWhole 0 = .ok (.aload_n 0, 1) := by decide +kernel
theorem dX1_isWhole_1 : decode cX1_isWhole 1 = .ok (.getfield 19, 3) := by decide +kernel
theorem dX1_isWhole_4 : decode cX1_isWhole 4 = .ok (.iconst 0, 1) := by decide +kernel
theorem dX1_isWhole_5 : decode cX1_isWhole 5 = .ok (.iaload, 1) := by decide +kernel
theorem dX1_isWhole_6 : decode cX1_isWhole 6 = .ok (.aload_n 0, 1) := by decide +kernel
theorem dX1_isWhole_7 : decode cX1_isWhole 7 = .ok (.getfield 15, 3) := by decide +kernel
theorem dX1_isWhole_10 : decode cX1_isWhole 10 = .ok (.ishr, 1) := by decide +kernel
theorem dX1_isWhole_11 : decode cX1_isWhole 11 = .ok (.iconst 1, 1) := by decide +kernel
theorem dX1_isWhole_12 : decode cX1_isWhole 12 = .ok (.iand, 1) := by decide +kernel
theorem dX1_isWhole_13 : decode cX1_isWhole 13 = .ok (.ifCond .eq 7, 3) := by decide +kernel
theorem dX1_isWhole_16 : decode cX1_isWhole 16 = .ok (.iconst 1, 1) := by decide +kernel
theorem dX1_isWhole_17 : decode cX1_isWhole 17 = .ok (.goto 4, 3) := by decide +kernel
theorem dX1_isWhole_20 : decode cX1_isWhole 20 = .ok (.iconst 0, 1) := by decide +kernel
theorem dX1_isWhole_21 : decode cX1_isWhole 21 = .ok (.ireturn, 1) := by decide +kernel
theorem dX1_readFrom_0 : decode cX1_readFrom 0 = .ok (.aload_n 0, 1) := by decide +kernel
theorem dX1_readFrom_1 : decode cX1_readFrom 1 = .ok (.getfield 22, 3) := by decide +kernel
theorem dX1_readFrom_4 : decode cX1_readFrom 4 = .ok (.getfield 47, 3) := by decide +kernel
theorem dX1_readFrom_7 : decode cX1_readFrom 7 = .ok (.iconst 1, 1) := by decide +kernel
theorem dX1_readFrom_8 : decode cX1_readFrom 8 = .ok (.isub, 1) := by decide +kernel
theorem dX1_readFrom_9 : decode cX1_readFrom 9 = .ok (.istore_n 2, 1) := by decide +kernel
theorem dX1_readFrom_10 : decode cX1_readFrom 10 = .ok (.iload_n 2, 1) := by decide +kernel
theorem dX1_readFrom_11 : decode cX1_readFrom 11 = .ok (.ifCond .lt 26, 3) := by decide +kernel
theorem dX1_readFrom_14 : decode cX1_readFrom 14 = .ok (.aload_n 0, 1) := by decide +kernel
theorem dX1_readFrom_15 : decode cX1_readFrom 15 = .ok (.getfield 19, 3) := by decide +kernel
theorem dX1_readFrom_18 : decode cX1_readFrom 18 = .ok (.iload_n 2, 1) := by decide +kernel
theorem dX1_readFrom_19 : decode cX1_readFrom 19 = .ok (.bipush 13, 2) := by decide +kernel
theorem dX1_readFrom_21 : decode cX1_readFrom 21 = .ok (.imul, 1) := by decide +kernel
theorem dX1_readFrom_22 : decode cX1_readFrom 22 = .ok (.iload_n 1, 1) := by decide +kernel
theorem dX1_readFrom_23 : decode cX1_readFrom 23 = .ok (.iadd, 1) := by decide +kernel
theorem dX1_readFrom_24 : decode cX1_readFrom 24 = .ok (.aload_n 0, 1) := by decide +kernel
theorem dX1_readFrom_25 : decode cX1_readFrom 25 = .ok (.iload_n 2, 1) := by decide +kernel
theorem dX1_readFrom_26 : decode cX1_readFrom 26 = .ok (.iload_n 1, 1) := by decide +kernel
theorem dX1_readFrom_27 : decode cX1_readFrom 27 = .ok (.invokevirtual 50, 3) := by decide +kernel
theorem dX1_readFrom_30 : decode cX1_readFrom 30 = .ok (.iastore, 1) := by decide +kernel
theorem dX1_readFrom_31 : decode cX1_readFrom 31 = .ok (.iinc 2 (-1), 3) := by decide +kernel
theorem dX1_readFrom_34 : decode cX1_readFrom 34 = .ok (.goto (-24), 3) := by decide +kernel
theorem dX1_readFrom_37 : decode cX1_readFrom 37 = .ok (.return_, 1) := by decide +kernel
theorem dX1_endsOf_0 : decode cX1_endsOf 0 = .ok (.aload_n 0, 1) := by decide +kernel
theorem dX1_endsOf_1 : decode cX1_endsOf 1 = .ok (.getfield 22, 3) := by decide +kernel
theorem dX1_endsOf_4 : decode cX1_endsOf 4 = .ok (.getfield 54, 3) := by decide +kernel
theorem dX1_endsOf_7 : decode cX1_endsOf 7 = .ok (.iload_n 1, 1) := by decide +kernel
theorem dX1_endsOf_8 : decode cX1_endsOf 8 = .ok (.iaload, 1) := by decide +kernel
theorem dX1_endsOf_9 : decode cX1_endsOf 9 = .ok (.tableswitch 71 1 5 #[35, 42, 50, 57, 64], 35) := by decide +kernel
theorem dX1_endsOf_44 : decode cX1_endsOf 44 = .ok (.aload_n 0, 1) := by decide +kernel
theorem dX1_endsOf_45 : decode cX1_endsOf 45 = .ok (.iload_n 1, 1) := by decide +kernel
theorem dX1_endsOf_46 : decode cX1_endsOf 46 = .ok (.iload_n 2, 1) := by decide +kernel
theorem dX1_endsOf_47 : decode cX1_endsOf 47 = .ok (.invokevirtual 57, 3) := by decide +kernel
theorem dX1_endsOf_50 : decode cX1_endsOf 50 = .ok (.ireturn, 1) := by decide +kernel
theorem dX1_endsOf_51 : decode cX1_endsOf 51 = .ok (.aload_n 0, 1) := by decide +kernel
theorem dX1_endsOf_52 : decode cX1_endsOf 52 = .ok (.iload_n 1, 1) := by decide +kernel
theorem dX1_endsOf_53 : decode cX1_endsOf 53 = .ok (.iconst 0, 1) := by decide +kernel
theorem dX1_endsOf_54 : decode cX1_endsOf 54 = .ok (.iload_n 2, 1) := by decide +kernel
theorem dX1_endsOf_55 : decode cX1_endsOf 55 = .ok (.invokevirtual 60, 3) := by decide +kernel
theorem dX1_endsOf_58 : decode cX1_endsOf 58 = .ok (.ireturn, 1) := by decide +kernel
theorem dX1_endsOf_59 : decode cX1_endsOf 59 = .ok (.aload_n 0, 1) := by decide +kernel
theorem dX1_endsOf_60 : decode cX1_endsOf 60 = .ok (.iload_n 1, 1) := by decide +kernel
theorem dX1_endsOf_61 : decode cX1_endsOf 61 = .ok (.iload_n 2, 1) := by decide +kernel
theorem dX1_endsOf_62 : decode cX1_endsOf 62 = .ok (.invokevirtual 64, 3) := by decide +kernel
theorem dX1_endsOf_65 : decode cX1_endsOf 65 = .ok (.ireturn, 1) := by decide +kernel
theorem dX1_endsOf_66 : decode cX1_endsOf 66 = .ok (.aload_n 0, 1) := by decide +kernel
theorem dX1_endsOf_67 : decode cX1_endsOf 67 = .ok (.iload_n 1, 1) := by decide +kernel
theorem dX1_endsOf_68 : decode cX1_endsOf 68 = .ok (.iload_n 2, 1) := by decide +kernel
theorem dX1_endsOf_69 : decode cX1_endsOf 69 = .ok (.invokevirtual 67, 3) := by decide +kernel
theorem dX1_endsOf_72 : decode cX1_endsOf 72 = .ok (.ireturn, 1) := by decide +kernel
theorem dX1_endsOf_73 : decode cX1_endsOf 73 = .ok (.aload_n 0, 1) := by decide +kernel
theorem dX1_endsOf_74 : decode cX1_endsOf 74 = .ok (.iload_n 1, 1) := by decide +kernel
theorem dX1_endsOf_75 : decode cX1_endsOf 75 = .ok (.iload_n 2, 1) := by decide +kernel
theorem dX1_endsOf_76 : decode cX1_endsOf 76 = .ok (.invokevirtual 70, 3) := by decide +kernel
theorem dX1_endsOf_79 : decode cX1_endsOf 79 = .ok (.ireturn, 1) := by decide +kernel
theorem dX1_endsOf_80 : decode cX1_endsOf 80 = .ok (.aload_n 0, 1) := by decide +kernel
theorem dX1_endsOf_81 : decode cX1_endsOf 81 = .ok (.iload_n 2, 1) := by decide +kernel
theorem dX1_endsOf_82 : decode cX1_endsOf 82 = .ok (.invokevirtual 73, 3) := by decide +kernel
theorem dX1_endsOf_85 : decode cX1_endsOf 85 = .ok (.ireturn, 1) := by decide +kernel
theorem dX1_allEnds_0 : decode cX1_allEnds 0 = .ok (.iconst 0, 1) := by decide +kernel
theorem dX1_allEnds_1 : decode cX1_allEnds 1 = .ok (.istore_n 2, 1) := by decide +kernel
theorem dX1_allEnds_2 : decode cX1_allEnds 2 = .ok (.iload_n 1, 1) := by decide +kernel
theorem dX1_allEnds_3 : decode cX1_allEnds 3 = .ok (.istore_n 3, 1) := by decide +kernel
theorem dX1_allEnds_4 : decode cX1_allEnds 4 = .ok (.iload_n 3, 1) := by decide +kernel
theorem dX1_allEnds_5 : decode cX1_allEnds 5 = .ok (.aload_n 0, 1) := by decide +kernel
theorem dX1_allEnds_6 : decode cX1_allEnds 6 = .ok (.getfield 15, 3) := by decide +kernel
theorem dX1_allEnds_9 : decode cX1_allEnds 9 = .ok (.if_icmp .gt 15, 3) := by decide +kernel
theorem dX1_allEnds_12 : decode cX1_allEnds 12 = .ok (.iload_n 2, 1) := by decide +kernel
theorem dX1_allEnds_13 : decode cX1_allEnds 13 = .ok (.iconst 1, 1) := by decide +kernel
theorem dX1_allEnds_14 : decode cX1_allEnds 14 = .ok (.iload_n 3, 1) := by decide +kernel
theorem dX1_allEnds_15 : decode cX1_allEnds 15 = .ok (.ishl, 1) := by decide +kernel
theorem dX1_allEnds_16 : decode cX1_allEnds 16 = .ok (.ior, 1) := by decide +kernel
theorem dX1_allEnds_17 : decode cX1_allEnds 17 = .ok (.istore_n 2, 1) := by decide +kernel
theorem dX1_allEnds_18 : decode cX1_allEnds 18 = .ok (.iinc 3 1, 3) := by decide +kernel
theorem dX1_allEnds_21 : decode cX1_allEnds 21 = .ok (.goto (-17), 3) := by decide +kernel
theorem dX1_allEnds_24 : decode cX1_allEnds 24 = .ok (.iload_n 2, 1) := by decide +kernel
theorem dX1_allEnds_25 : decode cX1_allEnds 25 = .ok (.ireturn, 1) := by decide +kernel
theorem dX1_endsOfLabel_0 : decode cX1_endsOfLabel 0 = .ok (.iconst 0, 1) := by decide +kernel
theorem dX1_endsOfLabel_1 : decode cX1_endsOfLabel 1 = .ok (.istore_n 3, 1) := by decide +kernel
theorem dX1_endsOfLabel_2 : decode cX1_endsOfLabel 2 = .ok (.iconst 0, 1) := by decide +kernel
theorem dX1_endsOfLabel_3 : decode cX1_endsOfLabel 3 = .ok (.istore 4, 2) := by decide +kernel
theorem dX1_endsOfLabel_5 : decode cX1_endsOfLabel 5 = .ok (.iload_n 2, 1) := by decide +kernel
theorem dX1_endsOfLabel_6 : decode cX1_endsOfLabel 6 = .ok (.istore 5, 2) := by decide +kernel
theorem dX1_endsOfLabel_8 : decode cX1_endsOfLabel 8 = .ok (.iload 5, 2) := by decide +kernel
theorem dX1_endsOfLabel_10 : decode cX1_endsOfLabel 10 = .ok (.aload_n 0, 1) := by decide +kernel
theorem dX1_endsOfLabel_11 : decode cX1_endsOfLabel 11 = .ok (.getfield 15, 3) := by decide +kernel
theorem dX1_endsOfLabel_14 : decode cX1_endsOfLabel 14 = .ok (.if_icmp .ge 47, 3) := by decide +kernel
theorem dX1_endsOfLabel_17 : decode cX1_endsOfLabel 17 = .ok (.aload_n 0, 1) := by decide +kernel
theorem dX1_endsOfLabel_18 : decode cX1_endsOfLabel 18 = .ok (.getfield 9, 3) := by decide +kernel
theorem dX1_endsOfLabel_21 : decode cX1_endsOfLabel 21 = .ok (.iload 5, 2) := by decide +kernel
theorem dX1_endsOfLabel_23 : decode cX1_endsOfLabel 23 = .ok (.iaload, 1) := by decide +kernel
theorem dX1_endsOfLabel_24 : decode cX1_endsOfLabel 24 = .ok (.aload_n 0, 1) := by decide +kernel
theorem dX1_endsOfLabel_25 : decode cX1_endsOfLabel 25 = .ok (.getfield 22, 3) := by decide +kernel
theorem dX1_endsOfLabel_28 : decode cX1_endsOfLabel 28 = .ok (.getfield 26, 3) := by decide +kernel
theorem dX1_endsOfLabel_31 : decode cX1_endsOfLabel 31 = .ok (.iload_n 1, 1) := by decide +kernel
theorem dX1_endsOfLabel_32 : decode cX1_endsOfLabel 32 = .ok (.iaload, 1) := by decide +kernel
theorem dX1_endsOfLabel_33 : decode cX1_endsOfLabel 33 = .ok (.if_icmp .ne 6, 3) := by decide +kernel
theorem dX1_endsOfLabel_36 : decode cX1_endsOfLabel 36 = .ok (.iinc 3 1, 3) := by decide +kernel
theorem dX1_endsOfLabel_39 : decode cX1_endsOfLabel 39 = .ok (.iload_n 3, 1) := by decide +kernel
theorem dX1_endsOfLabel_40 : decode cX1_endsOfLabel 40 = .ok (.iconst 1, 1) := by decide +kernel
theorem dX1_endsOfLabel_41 : decode cX1_endsOfLabel 41 = .ok (.if_icmp .ne 14, 3) := by decide +kernel
theorem dX1_endsOfLabel_44 : decode cX1_endsOfLabel 44 = .ok (.iload 4, 2) := by decide +kernel
theorem dX1_endsOfLabel_46 : decode cX1_endsOfLabel 46 = .ok (.iconst 1, 1) := by decide +kernel
theorem dX1_endsOfLabel_47 : decode cX1_endsOfLabel 47 = .ok (.iload 5, 2) := by decide +kernel
theorem dX1_endsOfLabel_49 : decode cX1_endsOfLabel 49 = .ok (.iconst 1, 1) := by decide +kernel
theorem dX1_endsOfLabel_50 : decode cX1_endsOfLabel 50 = .ok (.iadd, 1) := by decide +kernel
theorem dX1_endsOfLabel_51 : decode cX1_endsOfLabel 51 = .ok (.ishl, 1) := by decide +kernel
theorem dX1_endsOfLabel_52 : decode cX1_endsOfLabel 52 = .ok (.ior, 1) := by decide +kernel
theorem dX1_endsOfLabel_53 : decode cX1_endsOfLabel 53 = .ok (.istore 4, 2) := by decide +kernel
theorem dX1_endsOfLabel_55 : decode cX1_endsOfLabel 55 = .ok (.iinc 5 1, 3) := by decide +kernel
theorem dX1_endsOfLabel_58 : decode cX1_endsOfLabel 58 = .ok (.goto (-50), 3) := by decide +kernel
theorem dX1_endsOfLabel_61 : decode cX1_endsOfLabel 61 = .ok (.iload 4, 2) := by decide +kernel
theorem dX1_endsOfLabel_63 : decode cX1_endsOfLabel 63 = .ok (.ireturn, 1) := by decide +kernel
theorem dX1_endsOfAlternatives_0 : decode cX1_endsOfAlternatives 0 = .ok (.iconst 0, 1) := by decide +kernel
theorem dX1_endsOfAlternatives_1 : decode cX1_endsOfAlternatives 1 = .ok (.istore 4, 2) := by decide +kernel
theorem dX1_endsOfAlternatives_3 : decode cX1_endsOfAlternatives 3 = .ok (.iload_n 2, 1) := by decide +kernel
theorem dX1_endsOfAlternatives_4 : decode cX1_endsOfAlternatives 4 = .ok (.istore 5, 2) := by decide +kernel
theorem dX1_endsOfAlternatives_6 : decode cX1_endsOfAlternatives 6 = .ok (.iload 5, 2) := by decide +kernel
theorem dX1_endsOfAlternatives_8 : decode cX1_endsOfAlternatives 8 = .ok (.aload_n 0, 1) := by decide +kernel
theorem dX1_endsOfAlternatives_9 : decode cX1_endsOfAlternatives 9 = .ok (.getfield 22, 3) := by decide +kernel
theorem dX1_endsOfAlternatives_12 : decode cX1_endsOfAlternatives 12 = .ok (.getfield 77, 3) := by decide +kernel
theorem dX1_endsOfAlternatives_15 : decode cX1_endsOfAlternatives 15 = .ok (.iload_n 1, 1) := by decide +kernel
theorem dX1_endsOfAlternatives_16 : decode cX1_endsOfAlternatives 16 = .ok (.iaload, 1) := by decide +kernel
theorem dX1_endsOfAlternatives_17 : decode cX1_endsOfAlternatives 17 = .ok (.if_icmp .ge 30, 3) := by decide +kernel
theorem dX1_endsOfAlternatives_20 : decode cX1_endsOfAlternatives 20 = .ok (.iload 4, 2) := by decide +kernel
theorem dX1_endsOfAlternatives_22 : decode cX1_endsOfAlternatives 22 = .ok (.aload_n 0, 1) := by decide +kernel
theorem dX1_endsOfAlternatives_23 : decode cX1_endsOfAlternatives 23 = .ok (.iload_n 1, 1) := by decide +kernel
theorem dX1_endsOfAlternatives_24 : decode cX1_endsOfAlternatives 24 = .ok (.aload_n 0, 1) := by decide +kernel
theorem dX1_endsOfAlternatives_25 : decode cX1_endsOfAlternatives 25 = .ok (.getfield 22, 3) := by decide +kernel
theorem dX1_endsOfAlternatives_28 : decode cX1_endsOfAlternatives 28 = .ok (.iload_n 1, 1) := by decide +kernel
theorem dX1_endsOfAlternatives_29 : decode cX1_endsOfAlternatives 29 = .ok (.iload 5, 2) := by decide +kernel
theorem dX1_endsOfAlternatives_31 : decode cX1_endsOfAlternatives 31 = .ok (.invokevirtual 80, 3) := by decide +kernel
theorem dX1_endsOfAlternatives_34 : decode cX1_endsOfAlternatives 34 = .ok (.iload_n 3, 1) := by decide +kernel
theorem dX1_endsOfAlternatives_35 : decode cX1_endsOfAlternatives 35 = .ok (.invokevirtual 83, 3) := by decide +kernel
theorem dX1_endsOfAlternatives_38 : decode cX1_endsOfAlternatives 38 = .ok (.ior, 1) := by decide +kernel
theorem dX1_endsOfAlternatives_39 : decode cX1_endsOfAlternatives 39 = .ok (.istore 4, 2) := by decide +kernel
theorem dX1_endsOfAlternatives_41 : decode cX1_endsOfAlternatives 41 = .ok (.iinc 5 1, 3) := by decide +kernel
theorem dX1_endsOfAlternatives_44 : decode cX1_endsOfAlternatives 44 = .ok (.goto (-38), 3) := by decide +kernel
theorem dX1_endsOfAlternatives_47 : decode cX1_endsOfAlternatives 47 = .ok (.iload 4, 2) := by decide +kernel
theorem dX1_endsOfAlternatives_49 : decode cX1_endsOfAlternatives 49 = .ok (.ireturn, 1) := by decide +kernel
theorem dX1_endsOfOrder_0 : decode cX1_endsOfOrder 0 = .ok (.iconst 1, 1) := by decide +kernel
theorem dX1_endsOfOrder_1 : decode cX1_endsOfOrder 1 = .ok (.iload_n 2, 1) := by decide +kernel
theorem dX1_endsOfOrder_2 : decode cX1_endsOfOrder 2 = .ok (.ishl, 1) := by decide +kernel
theorem dX1_endsOfOrder_3 : decode cX1_endsOfOrder 3 = .ok (.istore_n 3, 1) := by decide +kernel
theorem dX1_endsOfOrder_4 : decode cX1_endsOfOrder 4 = .ok (.iconst 0, 1) := by decide +kernel
theorem dX1_endsOfOrder_5 : decode cX1_endsOfOrder 5 = .ok (.istore 4, 2) := by decide +kernel
theorem dX1_endsOfOrder_7 : decode cX1_endsOfOrder 7 = .ok (.iload 4, 2) := by decide +kernel
theorem dX1_endsOfOrder_9 : decode cX1_endsOfOrder 9 = .ok (.aload_n 0, 1) := by decide +kernel
theorem dX1_endsOfOrder_10 : decode cX1_endsOfOrder 10 = .ok (.getfield 22, 3) := by decide +kernel
theorem dX1_endsOfOrder_13 : decode cX1_endsOfOrder 13 = .ok (.getfield 77, 3) := by decide +kernel
theorem dX1_endsOfOrder_16 : decode cX1_endsOfOrder 16 = .ok (.iload_n 1, 1) := by decide +kernel
theorem dX1_endsOfOrder_17 : decode cX1_endsOfOrder 17 = .ok (.iaload, 1) := by decide +kernel
theorem dX1_endsOfOrder_18 : decode cX1_endsOfOrder 18 = .ok (.if_icmp .ge 64, 3) := by decide +kernel
theorem dX1_endsOfOrder_21 : decode cX1_endsOfOrder 21 = .ok (.iconst 0, 1) := by decide +kernel
theorem dX1_endsOfOrder_22 : decode cX1_endsOfOrder 22 = .ok (.istore 5, 2) := by decide +kernel
theorem dX1_endsOfOrder_24 : decode cX1_endsOfOrder 24 = .ok (.iload_n 2, 1) := by decide +kernel
theorem dX1_endsOfOrder_25 : decode cX1_endsOfOrder 25 = .ok (.istore 6, 2) := by decide +kernel
theorem dX1_endsOfOrder_27 : decode cX1_endsOfOrder 27 = .ok (.iload 6, 2) := by decide +kernel
theorem dX1_endsOfOrder_29 : decode cX1_endsOfOrder 29 = .ok (.aload_n 0, 1) := by decide +kernel
theorem dX1_endsOfOrder_30 : decode cX1_endsOfOrder 30 = .ok (.getfield 15, 3) := by decide +kernel
theorem dX1_endsOfOrder_33 : decode cX1_endsOfOrder 33 = .ok (.if_icmp .gt 40, 3) := by decide +kernel
theorem dX1_endsOfOrder_36 : decode cX1_endsOfOrder 36 = .ok (.iload_n 3, 1) := by decide +kernel
theorem dX1_endsOfOrder_37 : decode cX1_endsOfOrder 37 = .ok (.iload 6, 2) := by decide +kernel
theorem dX1_endsOfOrder_39 : decode cX1_endsOfOrder 39 = .ok (.invokestatic 43, 3) := by decide +kernel
theorem dX1_endsOfOrder_42 : decode cX1_endsOfOrder 42 = .ok (.ifCond .eq 25, 3) := by decide +kernel
theorem dX1_endsOfOrder_45 : decode cX1_endsOfOrder 45 = .ok (.iload 5, 2) := by decide +kernel
theorem dX1_endsOfOrder_47 : decode cX1_endsOfOrder 47 = .ok (.aload_n 0, 1) := by decide +kernel
theorem dX1_endsOfOrder_48 : decode cX1_endsOfOrder 48 = .ok (.iload_n 1, 1) := by decide +kernel
theorem dX1_endsOfOrder_49 : decode cX1_endsOfOrder 49 = .ok (.aload_n 0, 1) := by decide +kernel
theorem dX1_endsOfOrder_50 : decode cX1_endsOfOrder 50 = .ok (.getfield 22, 3) := by decide +kernel
theorem dX1_endsOfOrder_53 : decode cX1_endsOfOrder 53 = .ok (.iload_n 1, 1) := by decide +kernel
theorem dX1_endsOfOrder_54 : decode cX1_endsOfOrder 54 = .ok (.iload 4, 2) := by decide +kernel
theorem dX1_endsOfOrder_56 : decode cX1_endsOfOrder 56 = .ok (.invokevirtual 80, 3) := by decide +kernel
theorem dX1_endsOfOrder_59 : decode cX1_endsOfOrder 59 = .ok (.iload 6, 2) := by decide +kernel
theorem dX1_endsOfOrder_61 : decode cX1_endsOfOrder 61 = .ok (.invokevirtual 83, 3) := by decide +kernel
theorem dX1_endsOfOrder_64 : decode cX1_endsOfOrder 64 = .ok (.ior, 1) := by decide +kernel
theorem dX1_endsOfOrder_65 : decode cX1_endsOfOrder 65 = .ok (.istore 5, 2) := by decide +kernel
theorem dX1_endsOfOrder_67 : decode cX1_endsOfOrder 67 = .ok (.iinc 6 1, 3) := by decide +kernel
theorem dX1_endsOfOrder_70 : decode cX1_endsOfOrder 70 = .ok (.goto (-43), 3) := by decide +kernel
theorem dX1_endsOfOrder_73 : decode cX1_endsOfOrder 73 = .ok (.iload 5, 2) := by decide +kernel
theorem dX1_endsOfOrder_75 : decode cX1_endsOfOrder 75 = .ok (.istore_n 3, 1) := by decide +kernel
theorem dX1_endsOfOrder_76 : decode cX1_endsOfOrder 76 = .ok (.iinc 4 1, 3) := by decide +kernel
theorem dX1_endsOfOrder_79 : decode cX1_endsOfOrder 79 = .ok (.goto (-72), 3) := by decide +kernel
theorem dX1_endsOfOrder_82 : decode cX1_endsOfOrder 82 = .ok (.iload_n 3, 1) := by decide +kernel
theorem dX1_endsOfOrder_83 : decode cX1_endsOfOrder 83 = .ok (.ireturn, 1) := by decide +kernel
theorem dX1_endsOfBoth_0 : decode cX1_endsOfBoth 0 = .ok (.aload_n 0, 1) := by decide +kernel
theorem dX1_endsOfBoth_1 : decode cX1_endsOfBoth 1 = .ok (.iload_n 2, 1) := by decide +kernel
theorem dX1_endsOfBoth_2 : decode cX1_endsOfBoth 2 = .ok (.invokevirtual 73, 3) := by decide +kernel
theorem dX1_endsOfBoth_5 : decode cX1_endsOfBoth 5 = .ok (.istore_n 3, 1) := by decide +kernel
theorem dX1_endsOfBoth_6 : decode cX1_endsOfBoth 6 = .ok (.iconst 0, 1) := by decide +kernel
theorem dX1_endsOfBoth_7 : decode cX1_endsOfBoth 7 = .ok (.istore 4, 2) := by decide +kernel
theorem dX1_endsOfBoth_9 : decode cX1_endsOfBoth 9 = .ok (.iload 4, 2) := by decide +kernel
theorem dX1_endsOfBoth_11 : decode cX1_endsOfBoth 11 = .ok (.aload_n 0, 1) := by decide +kernel
theorem dX1_endsOfBoth_12 : decode cX1_endsOfBoth 12 = .ok (.getfield 22, 3) := by decide +kernel
theorem dX1_endsOfBoth_15 : decode cX1_endsOfBoth 15 = .ok (.getfield 77, 3) := by decide +kernel
theorem dX1_endsOfBoth_18 : decode cX1_endsOfBoth 18 = .ok (.iload_n 1, 1) := by decide +kernel
theorem dX1_endsOfBoth_19 : decode cX1_endsOfBoth 19 = .ok (.iaload, 1) := by decide +kernel
theorem dX1_endsOfBoth_20 : decode cX1_endsOfBoth 20 = .ok (.if_icmp .ge 32, 3) := by decide +kernel
theorem dX1_endsOfBoth_23 : decode cX1_endsOfBoth 23 = .ok (.iload_n 3, 1) := by decide +kernel
theorem dX1_endsOfBoth_24 : decode cX1_endsOfBoth 24 = .ok (.aload_n 0, 1) := by decide +kernel
theorem dX1_endsOfBoth_25 : decode cX1_endsOfBoth 25 = .ok (.getfield 19, 3) := by decide +kernel
theorem dX1_endsOfBoth_28 : decode cX1_endsOfBoth 28 = .ok (.aload_n 0, 1) := by decide +kernel
theorem dX1_endsOfBoth_29 : decode cX1_endsOfBoth 29 = .ok (.getfield 22, 3) := by decide +kernel
theorem dX1_endsOfBoth_32 : decode cX1_endsOfBoth 32 = .ok (.iload_n 1, 1) := by decide +kernel
theorem dX1_endsOfBoth_33 : decode cX1_endsOfBoth 33 = .ok (.iload 4, 2) := by decide +kernel
theorem dX1_endsOfBoth_35 : decode cX1_endsOfBoth 35 = .ok (.invokevirtual 80, 3) := by decide +kernel
theorem dX1_endsOfBoth_38 : decode cX1_endsOfBoth 38 = .ok (.bipush 13, 2) := by decide +kernel
theorem dX1_endsOfBoth_40 : decode cX1_endsOfBoth 40 = .ok (.imul, 1) := by decide +kernel
theorem dX1_endsOfBoth_41 : decode cX1_endsOfBoth 41 = .ok (.iload_n 2, 1) := by decide +kernel
theorem dX1_endsOfBoth_42 : decode cX1_endsOfBoth 42 = .ok (.iadd, 1) := by decide +kernel
theorem dX1_endsOfBoth_43 : decode cX1_endsOfBoth 43 = .ok (.iaload, 1) := by decide +kernel
theorem dX1_endsOfBoth_44 : decode cX1_endsOfBoth 44 = .ok (.iand, 1) := by decide +kernel
theorem dX1_endsOfBoth_45 : decode cX1_endsOfBoth 45 = .ok (.istore_n 3, 1) := by decide +kernel
theorem dX1_endsOfBoth_46 : decode cX1_endsOfBoth 46 = .ok (.iinc 4 1, 3) := by decide +kernel
theorem dX1_endsOfBoth_49 : decode cX1_endsOfBoth 49 = .ok (.goto (-40), 3) := by decide +kernel
theorem dX1_endsOfBoth_52 : decode cX1_endsOfBoth 52 = .ok (.iload_n 3, 1) := by decide +kernel
theorem dX1_endsOfBoth_53 : decode cX1_endsOfBoth 53 = .ok (.ireturn, 1) := by decide +kernel
theorem dX1_endsOfAgain_0 : decode cX1_endsOfAgain 0 = .ok (.aload_n 0, 1) := by decide +kernel
theorem dX1_endsOfAgain_1 : decode cX1_endsOfAgain 1 = .ok (.iload_n 1, 1) := by decide +kernel
theorem dX1_endsOfAgain_2 : decode cX1_endsOfAgain 2 = .ok (.aload_n 0, 1) := by decide +kernel
theorem dX1_endsOfAgain_3 : decode cX1_endsOfAgain 3 = .ok (.getfield 22, 3) := by decide +kernel
theorem dX1_endsOfAgain_6 : decode cX1_endsOfAgain 6 = .ok (.iload_n 1, 1) := by decide +kernel
theorem dX1_endsOfAgain_7 : decode cX1_endsOfAgain 7 = .ok (.iconst 0, 1) := by decide +kernel
theorem dX1_endsOfAgain_8 : decode cX1_endsOfAgain 8 = .ok (.invokevirtual 80, 3) := by decide +kernel
theorem dX1_endsOfAgain_11 : decode cX1_endsOfAgain 11 = .ok (.iload_n 2, 1) := by decide +kernel
theorem dX1_endsOfAgain_12 : decode cX1_endsOfAgain 12 = .ok (.invokevirtual 83, 3) := by decide +kernel
theorem dX1_endsOfAgain_15 : decode cX1_endsOfAgain 15 = .ok (.istore_n 3, 1) := by decide +kernel
theorem dX1_endsOfAgain_16 : decode cX1_endsOfAgain 16 = .ok (.iconst 0, 1) := by decide +kernel
theorem dX1_endsOfAgain_17 : decode cX1_endsOfAgain 17 = .ok (.istore 4, 2) := by decide +kernel
theorem dX1_endsOfAgain_19 : decode cX1_endsOfAgain 19 = .ok (.iload_n 2, 1) := by decide +kernel
theorem dX1_endsOfAgain_20 : decode cX1_endsOfAgain 20 = .ok (.istore 5, 2) := by decide +kernel
theorem dX1_endsOfAgain_22 : decode cX1_endsOfAgain 22 = .ok (.iload 5, 2) := by decide +kernel
theorem dX1_endsOfAgain_24 : decode cX1_endsOfAgain 24 = .ok (.aload_n 0, 1) := by decide +kernel
theorem dX1_endsOfAgain_25 : decode cX1_endsOfAgain 25 = .ok (.getfield 15, 3) := by decide +kernel
theorem dX1_endsOfAgain_28 : decode cX1_endsOfAgain 28 = .ok (.if_icmp .gt 31, 3) := by decide +kernel
theorem dX1_endsOfAgain_31 : decode cX1_endsOfAgain 31 = .ok (.iload_n 3, 1) := by decide +kernel
theorem dX1_endsOfAgain_32 : decode cX1_endsOfAgain 32 = .ok (.iload 5, 2) := by decide +kernel
theorem dX1_endsOfAgain_34 : decode cX1_endsOfAgain 34 = .ok (.invokestatic 43, 3) := by decide +kernel
theorem dX1_endsOfAgain_37 : decode cX1_endsOfAgain 37 = .ok (.ifCond .eq 16, 3) := by decide +kernel
theorem dX1_endsOfAgain_40 : decode cX1_endsOfAgain 40 = .ok (.iload 4, 2) := by decide +kernel
theorem dX1_endsOfAgain_42 : decode cX1_endsOfAgain 42 = .ok (.aload_n 0, 1) := by decide +kernel
theorem dX1_endsOfAgain_43 : decode cX1_endsOfAgain 43 = .ok (.iload_n 1, 1) := by decide +kernel
theorem dX1_endsOfAgain_44 : decode cX1_endsOfAgain 44 = .ok (.iconst 1, 1) := by decide +kernel
theorem dX1_endsOfAgain_45 : decode cX1_endsOfAgain 45 = .ok (.iload 5, 2) := by decide +kernel
theorem dX1_endsOfAgain_47 : decode cX1_endsOfAgain 47 = .ok (.invokevirtual 60, 3) := by decide +kernel
theorem dX1_endsOfAgain_50 : decode cX1_endsOfAgain 50 = .ok (.ior, 1) := by decide +kernel
theorem dX1_endsOfAgain_51 : decode cX1_endsOfAgain 51 = .ok (.istore 4, 2) := by decide +kernel
theorem dX1_endsOfAgain_53 : decode cX1_endsOfAgain 53 = .ok (.iinc 5 1, 3) := by decide +kernel
theorem dX1_endsOfAgain_56 : decode cX1_endsOfAgain 56 = .ok (.goto (-34), 3) := by decide +kernel
theorem dX1_endsOfAgain_59 : decode cX1_endsOfAgain 59 = .ok (.iload_n 3, 1) := by decide +kernel
theorem dX1_endsOfAgain_60 : decode cX1_endsOfAgain 60 = .ok (.istore 5, 2) := by decide +kernel
theorem dX1_endsOfAgain_62 : decode cX1_endsOfAgain 62 = .ok (.iload_n 2, 1) := by decide +kernel
theorem dX1_endsOfAgain_63 : decode cX1_endsOfAgain 63 = .ok (.iconst 1, 1) := by decide +kernel
theorem dX1_endsOfAgain_64 : decode cX1_endsOfAgain 64 = .ok (.iadd, 1) := by decide +kernel
theorem dX1_endsOfAgain_65 : decode cX1_endsOfAgain 65 = .ok (.istore 6, 2) := by decide +kernel
theorem dX1_endsOfAgain_67 : decode cX1_endsOfAgain 67 = .ok (.iload 6, 2) := by decide +kernel
theorem dX1_endsOfAgain_69 : decode cX1_endsOfAgain 69 = .ok (.aload_n 0, 1) := by decide +kernel
theorem dX1_endsOfAgain_70 : decode cX1_endsOfAgain 70 = .ok (.getfield 15, 3) := by decide +kernel
theorem dX1_endsOfAgain_73 : decode cX1_endsOfAgain 73 = .ok (.if_icmp .gt 36, 3) := by decide +kernel
theorem dX1_endsOfAgain_76 : decode cX1_endsOfAgain 76 = .ok (.iload 4, 2) := by decide +kernel
theorem dX1_endsOfAgain_78 : decode cX1_endsOfAgain 78 = .ok (.iload 6, 2) := by decide +kernel
theorem dX1_endsOfAgain_80 : decode cX1_endsOfAgain 80 = .ok (.invokestatic 43, 3) := by decide +kernel
theorem dX1_endsOfAgain_83 : decode cX1_endsOfAgain 83 = .ok (.ifCond .eq 20, 3) := by decide +kernel
theorem dX1_endsOfAgain_86 : decode cX1_endsOfAgain 86 = .ok (.iload 5, 2) := by decide +kernel
theorem dX1_endsOfAgain_88 : decode cX1_endsOfAgain 88 = .ok (.aload_n 0, 1) := by decide +kernel
theorem dX1_endsOfAgain_89 : decode cX1_endsOfAgain 89 = .ok (.getfield 19, 3) := by decide +kernel
theorem dX1_endsOfAgain_92 : decode cX1_endsOfAgain 92 = .ok (.iload_n 1, 1) := by decide +kernel
theorem dX1_endsOfAgain_93 : decode cX1_endsOfAgain 93 = .ok (.bipush 13, 2) := by decide +kernel
theorem dX1_endsOfAgain_95 : decode cX1_endsOfAgain 95 = .ok (.imul, 1) := by decide +kernel
theorem dX1_endsOfAgain_96 : decode cX1_endsOfAgain 96 = .ok (.iload 6, 2) := by decide +kernel
theorem dX1_endsOfAgain_98 : decode cX1_endsOfAgain 98 = .ok (.iadd, 1) := by decide +kernel
theorem dX1_endsOfAgain_99 : decode cX1_endsOfAgain 99 = .ok (.iaload, 1) := by decide +kernel
theorem dX1_endsOfAgain_100 : decode cX1_endsOfAgain 100 = .ok (.ior, 1) := by decide +kernel
theorem dX1_endsOfAgain_101 : decode cX1_endsOfAgain 101 = .ok (.istore 5, 2) := by decide +kernel
theorem dX1_endsOfAgain_103 : decode cX1_endsOfAgain 103 = .ok (.iinc 6 1, 3) := by decide +kernel
theorem dX1_endsOfAgain_106 : decode cX1_endsOfAgain 106 = .ok (.goto (-39), 3) := by decide +kernel
theorem dX1_endsOfAgain_109 : decode cX1_endsOfAgain 109 = .ok (.iload 5, 2) := by decide +kernel
theorem dX1_endsOfAgain_111 : decode cX1_endsOfAgain 111 = .ok (.ireturn, 1) := by decide +kernel
theorem dX1_endsOfChild_0 : decode cX1_endsOfChild 0 = .ok (.aload_n 0, 1) := by decide +kernel
theorem dX1_endsOfChild_1 : decode cX1_endsOfChild 1 = .ok (.getfield 22, 3) := by decide +kernel
theorem dX1_endsOfChild_4 : decode cX1_endsOfChild 4 = .ok (.getfield 26, 3) := by decide +kernel
theorem dX1_endsOfChild_7 : decode cX1_endsOfChild 7 = .ok (.iload_n 1, 1) := by decide +kernel
theorem dX1_endsOfChild_8 : decode cX1_endsOfChild 8 = .ok (.iaload, 1) := by decide +kernel
theorem dX1_endsOfChild_9 : decode cX1_endsOfChild 9 = .ok (.aload_n 0, 1) := by decide +kernel
theorem dX1_endsOfChild_10 : decode cX1_endsOfChild 10 = .ok (.getfield 22, 3) := by decide +kernel
theorem dX1_endsOfChild_13 : decode cX1_endsOfChild 13 = .ok (.getfield 26, 3) := by decide +kernel
theorem dX1_endsOfChild_16 : decode cX1_endsOfChild 16 = .ok (.iload_n 2, 1) := by decide +kernel
theorem dX1_endsOfChild_17 : decode cX1_endsOfChild 17 = .ok (.iaload, 1) := by decide +kernel
theorem dX1_endsOfChild_18 : decode cX1_endsOfChild 18 = .ok (.iconst (-1), 1) := by decide +kernel
theorem dX1_endsOfChild_19 : decode cX1_endsOfChild 19 = .ok (.ixor, 1) := by decide +kernel
theorem dX1_endsOfChild_20 : decode cX1_endsOfChild 20 = .ok (.iand, 1) := by decide +kernel
theorem dX1_endsOfChild_21 : decode cX1_endsOfChild 21 = .ok (.istore 4, 2) := by decide +kernel
theorem dX1_endsOfChild_23 : decode cX1_endsOfChild 23 = .ok (.iload_n 3, 1) := by decide +kernel
theorem dX1_endsOfChild_24 : decode cX1_endsOfChild 24 = .ok (.istore 5, 2) := by decide +kernel
theorem dX1_endsOfChild_26 : decode cX1_endsOfChild 26 = .ok (.iload 5, 2) := by decide +kernel
theorem dX1_endsOfChild_28 : decode cX1_endsOfChild 28 = .ok (.aload_n 0, 1) := by decide +kernel
theorem dX1_endsOfChild_29 : decode cX1_endsOfChild 29 = .ok (.getfield 15, 3) := by decide +kernel
theorem dX1_endsOfChild_32 : decode cX1_endsOfChild 32 = .ok (.if_icmp .ge 22, 3) := by decide +kernel
theorem dX1_endsOfChild_35 : decode cX1_endsOfChild 35 = .ok (.aload_n 0, 1) := by decide +kernel
theorem dX1_endsOfChild_36 : decode cX1_endsOfChild 36 = .ok (.getfield 9, 3) := by decide +kernel
theorem dX1_endsOfChild_39 : decode cX1_endsOfChild 39 = .ok (.iload 5, 2) := by decide +kernel
theorem dX1_endsOfChild_41 : decode cX1_endsOfChild 41 = .ok (.iaload, 1) := by decide +kernel
theorem dX1_endsOfChild_42 : decode cX1_endsOfChild 42 = .ok (.iload 4, 2) := by decide +kernel
theorem dX1_endsOfChild_44 : decode cX1_endsOfChild 44 = .ok (.iand, 1) := by decide +kernel
theorem dX1_endsOfChild_45 : decode cX1_endsOfChild 45 = .ok (.ifCond .ne 9, 3) := by decide +kernel
theorem dX1_endsOfChild_48 : decode cX1_endsOfChild 48 = .ok (.iinc 5 1, 3) := by decide +kernel
theorem dX1_endsOfChild_51 : decode cX1_endsOfChild 51 = .ok (.goto (-25), 3) := by decide +kernel
theorem dX1_endsOfChild_54 : decode cX1_endsOfChild 54 = .ok (.aload_n 0, 1) := by decide +kernel
theorem dX1_endsOfChild_55 : decode cX1_endsOfChild 55 = .ok (.getfield 19, 3) := by decide +kernel
theorem dX1_endsOfChild_58 : decode cX1_endsOfChild 58 = .ok (.iload_n 2, 1) := by decide +kernel
theorem dX1_endsOfChild_59 : decode cX1_endsOfChild 59 = .ok (.bipush 13, 2) := by decide +kernel
theorem dX1_endsOfChild_61 : decode cX1_endsOfChild 61 = .ok (.imul, 1) := by decide +kernel
theorem dX1_endsOfChild_62 : decode cX1_endsOfChild 62 = .ok (.iload_n 3, 1) := by decide +kernel
theorem dX1_endsOfChild_63 : decode cX1_endsOfChild 63 = .ok (.iadd, 1) := by decide +kernel
theorem dX1_endsOfChild_64 : decode cX1_endsOfChild 64 = .ok (.iaload, 1) := by decide +kernel
theorem dX1_endsOfChild_65 : decode cX1_endsOfChild 65 = .ok (.iconst 2, 1) := by decide +kernel
theorem dX1_endsOfChild_66 : decode cX1_endsOfChild 66 = .ok (.iload 5, 2) := by decide +kernel
theorem dX1_endsOfChild_68 : decode cX1_endsOfChild 68 = .ok (.ishl, 1) := by decide +kernel
theorem dX1_endsOfChild_69 : decode cX1_endsOfChild 69 = .ok (.iconst 1, 1) := by decide +kernel
theorem dX1_endsOfChild_70 : decode cX1_endsOfChild 70 = .ok (.isub, 1) := by decide +kernel
theorem dX1_endsOfChild_71 : decode cX1_endsOfChild 71 = .ok (.iand, 1) := by decide +kernel
theorem dX1_endsOfChild_72 : decode cX1_endsOfChild 72 = .ok (.ireturn, 1) := by decide +kernel
theorem dX2_init_0 : decode cX2_init 0 = .ok (.aload_n 0, 1) := by decide +kernel
theorem dX2_init_1 : decode cX2_init 1 = .ok (.invokespecial 3, 3) := by decide +kernel
theorem dX2_init_4 : decode cX2_init 4 = .ok (.aload_n 0, 1) := by decide +kernel
theorem dX2_init_5 : decode cX2_init 5 = .ok (.bipush 64, 2) := by decide +kernel
theorem dX2_init_7 : decode cX2_init 7 = .ok (.newarray .int, 2) := by decide +kernel
theorem dX2_init_9 : decode cX2_init 9 = .ok (.putfield 9, 3) := by decide +kernel
theorem dX2_init_12 : decode cX2_init 12 = .ok (.aload_n 0, 1) := by decide +kernel
theorem dX2_init_13 : decode cX2_init 13 = .ok (.bipush 64, 2) := by decide +kernel
theorem dX2_init_15 : decode cX2_init 15 = .ok (.newarray .int, 2) := by decide +kernel
theorem dX2_init_17 : decode cX2_init 17 = .ok (.putfield 15, 3) := by decide +kernel
theorem dX2_init_20 : decode cX2_init 20 = .ok (.aload_n 0, 1) := by decide +kernel
theorem dX2_init_21 : decode cX2_init 21 = .ok (.bipush 64, 2) := by decide +kernel
theorem dX2_init_23 : decode cX2_init 23 = .ok (.newarray .int, 2) := by decide +kernel
theorem dX2_init_25 : decode cX2_init 25 = .ok (.putfield 18, 3) := by decide +kernel
theorem dX2_init_28 : decode cX2_init 28 = .ok (.aload_n 0, 1) := by decide +kernel
theorem dX2_init_29 : decode cX2_init 29 = .ok (.bipush 64, 2) := by decide +kernel
theorem dX2_init_31 : decode cX2_init 31 = .ok (.newarray .int, 2) := by decide +kernel
theorem dX2_init_33 : decode cX2_init 33 = .ok (.putfield 21, 3) := by decide +kernel
theorem dX2_init_36 : decode cX2_init 36 = .ok (.aload_n 0, 1) := by decide +kernel
theorem dX2_init_37 : decode cX2_init 37 = .ok (.sipush 512, 3) := by decide +kernel
theorem dX2_init_40 : decode cX2_init 40 = .ok (.newarray .int, 2) := by decide +kernel
theorem dX2_init_42 : decode cX2_init 42 = .ok (.putfield 24, 3) := by decide +kernel
theorem dX2_init_45 : decode cX2_init 45 = .ok (.aload_n 0, 1) := by decide +kernel
theorem dX2_init_46 : decode cX2_init 46 = .ok (.bipush 64, 2) := by decide +kernel
theorem dX2_init_48 : decode cX2_init 48 = .ok (.newarray .int, 2) := by decide +kernel
theorem dX2_init_50 : decode cX2_init 50 = .ok (.putfield 27, 3) := by decide +kernel
theorem dX2_init_53 : decode cX2_init 53 = .ok (.aload_n 0, 1) := by decide +kernel
theorem dX2_init_54 : decode cX2_init 54 = .ok (.iconst 0, 1) := by decide +kernel
theorem dX2_init_55 : decode cX2_init 55 = .ok (.putfield 30, 3) := by decide +kernel
theorem dX2_init_58 : decode cX2_init 58 = .ok (.return_, 1) := by decide +kernel
theorem dX2_add_0 : decode cX2_add 0 = .ok (.aload_n 0, 1) := by decide +kernel
theorem dX2_add_1 : decode cX2_add 1 = .ok (.getfield 30, 3) := by decide +kernel
theorem dX2_add_4 : decode cX2_add 4 = .ok (.bipush 64, 2) := by decide +kernel
theorem dX2_add_6 : decode cX2_add 6 = .ok (.if_icmp .lt 5, 3) := by decide +kernel
theorem dX2_add_9 : decode cX2_add 9 = .ok (.iconst (-1), 1) := by decide +kernel
theorem dX2_add_10 : decode cX2_add 10 = .ok (.ireturn, 1) := by decide +kernel
theorem dX2_add_11 : decode cX2_add 11 = .ok (.aload_n 0, 1) := by decide +kernel
theorem dX2_add_12 : decode cX2_add 12 = .ok (.getfield 30, 3) := by decide +kernel
theorem dX2_add_15 : decode cX2_add 15 = .ok (.istore 4, 2) := by decide +kernel
theorem dX2_add_17 : decode cX2_add 17 = .ok (.aload_n 0, 1) := by decide +kernel
theorem dX2_add_18 : decode cX2_add 18 = .ok (.getfield 9, 3) := by decide +kernel
theorem dX2_add_21 : decode cX2_add 21 = .ok (.iload 4, 2) := by decide +kernel
theorem dX2_add_23 : decode cX2_add 23 = .ok (.iload_n 1, 1) := by decide +kernel
theorem dX2_add_24 : decode cX2_add 24 = .ok (.iastore, 1) := by decide +kernel
theorem dX2_add_25 : decode cX2_add 25 = .ok (.aload_n 0, 1) := by decide +kernel
theorem dX2_add_26 : decode cX2_add 26 = .ok (.getfield 15, 3) := by decide +kernel
theorem dX2_add_29 : decode cX2_add 29 = .ok (.iload 4, 2) := by decide +kernel
theorem dX2_add_31 : decode cX2_add 31 = .ok (.iload_n 2, 1) := by decide +kernel
theorem dX2_add_32 : decode cX2_add 32 = .ok (.iastore, 1) := by decide +kernel
theorem dX2_add_33 : decode cX2_add 33 = .ok (.aload_n 0, 1) := by decide +kernel
theorem dX2_add_34 : decode cX2_add 34 = .ok (.getfield 18, 3) := by decide +kernel
theorem dX2_add_37 : decode cX2_add 37 = .ok (.iload 4, 2) := by decide +kernel
theorem dX2_add_39 : decode cX2_add 39 = .ok (.iload_n 3, 1) := by decide +kernel
theorem dX2_add_40 : decode cX2_add 40 = .ok (.iastore, 1) := by decide +kernel
theorem dX2_add_41 : decode cX2_add 41 = .ok (.aload_n 0, 1) := by decide +kernel
theorem dX2_add_42 : decode cX2_add 42 = .ok (.getfield 21, 3) := by decide +kernel
theorem dX2_add_45 : decode cX2_add 45 = .ok (.iload 4, 2) := by decide +kernel
theorem dX2_add_47 : decode cX2_add 47 = .ok (.iconst 0, 1) := by decide +kernel
theorem dX2_add_48 : decode cX2_add 48 = .ok (.iastore, 1) := by decide +kernel
theorem dX2_add_49 : decode cX2_add 49 = .ok (.aload_n 0, 1) := by decide +kernel
theorem dX2_add_50 : decode cX2_add 50 = .ok (.dup, 1) := by decide +kernel
theorem dX2_add_51 : decode cX2_add 51 = .ok (.getfield 30, 3) := by decide +kernel
theorem dX2_add_54 : decode cX2_add 54 = .ok (.iconst 1, 1) := by decide +kernel
theorem dX2_add_55 : decode cX2_add 55 = .ok (.iadd, 1) := by decide +kernel
theorem dX2_add_56 : decode cX2_add 56 = .ok (.putfield 30, 3) := by decide +kernel
theorem dX2_add_59 : decode cX2_add 59 = .ok (.iload_n 3, 1) := by decide +kernel
theorem dX2_add_60 : decode cX2_add 60 = .ok (.ifCond .lt 48, 3) := by decide +kernel
theorem dX2_add_63 : decode cX2_add 63 = .ok (.iload_n 3, 1) := by decide +kernel
theorem dX2_add_64 : decode cX2_add 64 = .ok (.iload 4, 2) := by decide +kernel
theorem dX2_add_66 : decode cX2_add 66 = .ok (.if_icmp .ge 42, 3) := by decide +kernel
theorem dX2_add_69 : decode cX2_add 69 = .ok (.aload_n 0, 1) := by decide +kernel
theorem dX2_add_70 : decode cX2_add 70 = .ok (.getfield 21, 3) := by decide +kernel
theorem dX2_add_73 : decode cX2_add 73 = .ok (.iload_n 3, 1) := by decide +kernel
theorem dX2_add_74 : decode cX2_add 74 = .ok (.iaload, 1) := by decide +kernel
theorem dX2_add_75 : decode cX2_add 75 = .ok (.bipush 8, 2) := by decide +kernel
theorem dX2_add_77 : decode cX2_add 77 = .ok (.if_icmp .ge 31, 3) := by decide +kernel
theorem dX2_add_80 : decode cX2_add 80 = .ok (.aload_n 0, 1) := by decide +kernel
theorem dX2_add_81 : decode cX2_add 81 = .ok (.getfield 24, 3) := by decide +kernel
theorem dX2_add_84 : decode cX2_add 84 = .ok (.iload_n 3, 1) := by decide +kernel
theorem dX2_add_85 : decode cX2_add 85 = .ok (.bipush 8, 2) := by decide +kernel
theorem dX2_add_87 : decode cX2_add 87 = .ok (.imul, 1) := by decide +kernel
theorem dX2_add_88 : decode cX2_add 88 = .ok (.aload_n 0, 1) := by decide +kernel
theorem dX2_add_89 : decode cX2_add 89 = .ok (.getfield 21, 3) := by decide +kernel
theorem dX2_add_92 : decode cX2_add 92 = .ok (.iload_n 3, 1) := by decide +kernel
theorem dX2_add_93 : decode cX2_add 93 = .ok (.iaload, 1) := by decide +kernel
theorem dX2_add_94 : decode cX2_add 94 = .ok (.iadd, 1) := by decide +kernel
theorem dX2_add_95 : decode cX2_add 95 = .ok (.iload 4, 2) := by decide +kernel
theorem dX2_add_97 : decode cX2_add 97 = .ok (.iastore, 1) := by decide +kernel
theorem dX2_add_98 : decode cX2_add 98 = .ok (.aload_n 0, 1) := by decide +kernel
theorem dX2_add_99 : decode cX2_add 99 = .ok (.getfield 21, 3) := by decide +kernel
theorem dX2_add_102 : decode cX2_add 102 = .ok (.iload_n 3, 1) := by decide +kernel
theorem dX2_add_103 : decode cX2_add 103 = .ok (.dup2, 1) := by decide +kernel
theorem dX2_add_104 : decode cX2_add 104 = .ok (.iaload, 1) := by decide +kernel
theorem dX2_add_105 : decode cX2_add 105 = .ok (.iconst 1, 1) := by decide +kernel
theorem dX2_add_106 : decode cX2_add 106 = .ok (.iadd, 1) := by decide +kernel
theorem dX2_add_107 : decode cX2_add 107 = .ok (.iastore, 1) := by decide +kernel
theorem dX2_add_108 : decode cX2_add 108 = .ok (.iload 4, 2) := by decide +kernel
theorem dX2_add_110 : decode cX2_add 110 = .ok (.ireturn, 1) := by decide +kernel
theorem dX2_childOf_0 : decode cX2_childOf 0 = .ok (.aload_n 0, 1) := by decide +kernel
theorem dX2_childOf_1 : decode cX2_childOf 1 = .ok (.getfield 24, 3) := by decide +kernel
theorem dX2_childOf_4 : decode cX2_childOf 4 = .ok (.iload_n 1, 1) := by decide +kernel
theorem dX2_childOf_5 : decode cX2_childOf 5 = .ok (.bipush 8, 2) := by decide +kernel
theorem dX2_childOf_7 : decode cX2_childOf 7 = .ok (.imul, 1) := by decide +kernel
theorem dX2_childOf_8 : decode cX2_childOf 8 = .ok (.iload_n 2, 1) := by decide +kernel
theorem dX2_childOf_9 : decode cX2_childOf 9 = .ok (.iadd, 1) := by decide +kernel
theorem dX2_childOf_10 : decode cX2_childOf 10 = .ok (.iaload, 1) := by decide +kernel
theorem dX2_childOf_11 : decode cX2_childOf 11 = .ok (.ireturn, 1) := by decide +kernel
theorem dX2_leastLabels_0 : decode cX2_leastLabels 0 = .ok (.aload_n 0, 1) := by decide +kernel
theorem dX2_leastLabels_1 : decode cX2_leastLabels 1 = .ok (.getfield 30, 3) := by decide +kernel
theorem dX2_leastLabels_4 : decode cX2_leastLabels 4 = .ok (.iconst 1, 1) := by decide +kernel
theorem dX2_leastLabels_5 : decode cX2_leastLabels 5 = .ok (.isub, 1) := by decide +kernel
theorem dX2_leastLabels_6 : decode cX2_leastLabels 6 = .ok (.istore_n 2, 1) := by decide +kernel
theorem dX2_leastLabels_7 : decode cX2_leastLabels 7 = .ok (.iload_n 2, 1) := by decide +kernel
theorem dX2_leastLabels_8 : decode cX2_leastLabels 8 = .ok (.iload_n 1, 1) := by decide +kernel
theorem dX2_leastLabels_9 : decode cX2_leastLabels 9 = .ok (.if_icmp .lt 20, 3) := by decide +kernel
theorem dX2_leastLabels_12 : decode cX2_leastLabels 12 = .ok (.aload_n 0, 1) := by decide +kernel
theorem dX2_leastLabels_13 : decode cX2_leastLabels 13 = .ok (.getfield 27, 3) := by decide +kernel
theorem dX2_leastLabels_16 : decode cX2_leastLabels 16 = .ok (.iload_n 2, 1) := by decide +kernel
theorem dX2_leastLabels_17 : decode cX2_leastLabels 17 = .ok (.aload_n 0, 1) := by decide +kernel
theorem dX2_leastLabels_18 : decode cX2_leastLabels 18 = .ok (.iload_n 2, 1) := by decide +kernel
theorem dX2_leastLabels_19 : decode cX2_leastLabels 19 = .ok (.invokevirtual 34, 3) := by decide +kernel
theorem dX2_leastLabels_22 : decode cX2_leastLabels 22 = .ok (.iastore, 1) := by decide +kernel
theorem dX2_leastLabels_23 : decode cX2_leastLabels 23 = .ok (.iinc 2 (-1), 3) := by decide +kernel
theorem dX2_leastLabels_26 : decode cX2_leastLabels 26 = .ok (.goto (-19), 3) := by decide +kernel
theorem dX2_leastLabels_29 : decode cX2_leastLabels 29 = .ok (.aload_n 0, 1) := by decide +kernel
theorem dX2_leastLabels_30 : decode cX2_leastLabels 30 = .ok (.getfield 27, 3) := by decide +kernel
theorem dX2_leastLabels_33 : decode cX2_leastLabels 33 = .ok (.iload_n 1, 1) := by decide +kernel
theorem dX2_leastLabels_34 : decode cX2_leastLabels 34 = .ok (.iaload, 1) := by decide +kernel
theorem dX2_leastLabels_35 : decode cX2_leastLabels 35 = .ok (.ireturn, 1) := by decide +kernel
theorem dX2_leastByChildren_0 : decode cX2_leastByChildren 0 = .ok (.aload_n 0, 1) := by decide +kernel
theorem dX2_leastByChildren_1 : decode cX2_leastByChildren 1 = .ok (.getfield 9, 3) := by decide +kernel
theorem dX2_leastByChildren_4 : decode cX2_leastByChildren 4 = .ok (.iload_n 1, 1) := by decide +kernel
theorem dX2_leastByChildren_5 : decode cX2_leastByChildren 5 = .ok (.iaload, 1) := by decide +kernel
theorem dX2_leastByChildren_6 : decode cX2_leastByChildren 6 = .ok (.tableswitch 60 1 5 #[34, 36, 42, 42, 48], 34) := by decide +kernel
theorem dX2_leastByChildren_40 : decode cX2_leastByChildren 40 = .ok (.iconst 1, 1) := by decide +kernel
theorem dX2_leastByChildren_41 : decode cX2_leastByChildren 41 = .ok (.ireturn, 1) := by decide +kernel
theorem dX2_leastByChildren_42 : decode cX2_leastByChildren 42 = .ok (.aload_n 0, 1) := by decide +kernel
theorem dX2_leastByChildren_43 : decode cX2_leastByChildren 43 = .ok (.iload_n 1, 1) := by decide +kernel
theorem dX2_leastByChildren_44 : decode cX2_leastByChildren 44 = .ok (.invokevirtual 38, 3) := by decide +kernel
theorem dX2_leastByChildren_47 : decode cX2_leastByChildren 47 = .ok (.ireturn, 1) := by decide +kernel
theorem dX2_leastByChildren_48 : decode cX2_leastByChildren 48 = .ok (.aload_n 0, 1) := by decide +kernel
theorem dX2_leastByChildren_49 : decode cX2_leastByChildren 49 = .ok (.iload_n 1, 1) := by decide +kernel
theorem dX2_leastByChildren_50 : decode cX2_leastByChildren 50 = .ok (.invokevirtual 41, 3) := by decide +kernel
theorem dX2_leastByChildren_53 : decode cX2_leastByChildren 53 = .ok (.ireturn, 1) := by decide +kernel
theorem dX2_leastByChildren_54 : decode cX2_leastByChildren 54 = .ok (.aload_n 0, 1) := by decide +kernel
theorem dX2_leastByChildren_55 : decode cX2_leastByChildren 55 = .ok (.getfield 27, 3) := by decide +kernel
theorem dX2_leastByChildren_58 : decode cX2_leastByChildren 58 = .ok (.aload_n 0, 1) := by decide +kernel
theorem dX2_leastByChildren_59 : decode cX2_leastByChildren 59 = .ok (.iload_n 1, 1) := by decide +kernel
theorem dX2_leastByChildren_60 : decode cX2_leastByChildren 60 = .ok (.iconst 0, 1) := by decide +kernel
theorem dX2_leastByChildren_61 : decode cX2_leastByChildren 61 = .ok (.invokevirtual 44, 3) := by decide +kernel
theorem dX2_leastByChildren_64 : decode cX2_leastByChildren 64 = .ok (.iaload, 1) := by decide +kernel
theorem dX2_leastByChildren_65 : decode cX2_leastByChildren 65 = .ok (.ireturn, 1) := by decide +kernel
theorem dX2_leastByChildren_66 : decode cX2_leastByChildren 66 = .ok (.iconst 0, 1) := by decide +kernel
theorem dX2_leastByChildren_67 : decode cX2_leastByChildren 67 = .ok (.ireturn, 1) := by decide +kernel
theorem dX2_leastOfChildren_0 : decode cX2_leastOfChildren 0 = .ok (.aload_n 0, 1) := by decide +kernel
theorem dX2_leastOfChildren_1 : decode cX2_leastOfChildren 1 = .ok (.getfield 27, 3) := by decide +kernel
theorem dX2_leastOfChildren_4 : decode cX2_leastOfChildren 4 = .ok (.aload_n 0, 1) := by decide +kernel
theorem dX2_leastOfChildren_5 : decode cX2_leastOfChildren 5 = .ok (.iload_n 1, 1) := by decide +kernel
theorem dX2_leastOfChildren_6 : decode cX2_leastOfChildren 6 = .ok (.iconst 0, 1) := by decide +kernel
theorem dX2_leastOfChildren_7 : decode cX2_leastOfChildren 7 = .ok (.invokevirtual 44, 3) := by decide +kernel
theorem dX2_leastOfChildren_10 : decode cX2_leastOfChildren 10 = .ok (.iaload, 1) := by decide +kernel
theorem dX2_leastOfChildren_11 : decode cX2_leastOfChildren 11 = .ok (.istore_n 2, 1) := by decide +kernel
theorem dX2_leastOfChildren_12 : decode cX2_leastOfChildren 12 = .ok (.iconst 1, 1) := by decide +kernel
theorem dX2_leastOfChildren_13 : decode cX2_leastOfChildren 13 = .ok (.istore_n 3, 1) := by decide +kernel
theorem dX2_leastOfChildren_14 : decode cX2_leastOfChildren 14 = .ok (.iload_n 3, 1) := by decide +kernel
theorem dX2_leastOfChildren_15 : decode cX2_leastOfChildren 15 = .ok (.aload_n 0, 1) := by decide +kernel
theorem dX2_leastOfChildren_16 : decode cX2_leastOfChildren 16 = .ok (.getfield 21, 3) := by decide +kernel
theorem dX2_leastOfChildren_19 : decode cX2_leastOfChildren 19 = .ok (.iload_n 1, 1) := by decide +kernel
theorem dX2_leastOfChildren_20 : decode cX2_leastOfChildren 20 = .ok (.iaload, 1) := by decide +kernel
theorem dX2_leastOfChildren_21 : decode cX2_leastOfChildren 21 = .ok (.if_icmp .ge 25, 3) := by decide +kernel
theorem dX2_leastOfChildren_24 : decode cX2_leastOfChildren 24 = .ok (.iload_n 2, 1) := by decide +kernel
theorem dX2_leastOfChildren_25 : decode cX2_leastOfChildren 25 = .ok (.aload_n 0, 1) := by decide +kernel
theorem dX2_leastOfChildren_26 : decode cX2_leastOfChildren 26 = .ok (.getfield 27, 3) := by decide +kernel
theorem dX2_leastOfChildren_29 : decode cX2_leastOfChildren 29 = .ok (.aload_n 0, 1) := by decide +kernel
theorem dX2_leastOfChildren_30 : decode cX2_leastOfChildren 30 = .ok (.iload_n 1, 1) := by decide +kernel
theorem dX2_leastOfChildren_31 : decode cX2_leastOfChildren 31 = .ok (.iload_n 3, 1) := by decide +kernel
theorem dX2_leastOfChildren_32 : decode cX2_leastOfChildren 32 = .ok (.invokevirtual 44, 3) := by decide +kernel
theorem dX2_leastOfChildren_35 : decode cX2_leastOfChildren 35 = .ok (.iaload, 1) := by decide +kernel
theorem dX2_leastOfChildren_36 : decode cX2_leastOfChildren 36 = .ok (.invokestatic 48, 3) := by decide +kernel
theorem dX2_leastOfChildren_39 : decode cX2_leastOfChildren 39 = .ok (.istore_n 2, 1) := by decide +kernel
theorem dX2_leastOfChildren_40 : decode cX2_leastOfChildren 40 = .ok (.iinc 3 1, 3) := by decide +kernel
theorem dX2_leastOfChildren_43 : decode cX2_leastOfChildren 43 = .ok (.goto (-29), 3) := by decide +kernel
theorem dX2_leastOfChildren_46 : decode cX2_leastOfChildren 46 = .ok (.iload_n 2, 1) := by decide +kernel
theorem dX2_leastOfChildren_47 : decode cX2_leastOfChildren 47 = .ok (.ireturn, 1) := by decide +kernel
theorem dX2_sumOfChildren_0 : decode cX2_sumOfChildren 0 = .ok (.iconst 0, 1) := by decide +kernel
theorem dX2_sumOfChildren_1 : decode cX2_sumOfChildren 1 = .ok (.istore_n 2, 1) := by decide +kernel
theorem dX2_sumOfChildren_2 : decode cX2_sumOfChildren 2 = .ok (.iconst 0, 1) := by decide +kernel
theorem dX2_sumOfChildren_3 : decode cX2_sumOfChildren 3 = .ok (.istore_n 3, 1) := by decide +kernel
theorem dX2_sumOfChildren_4 : decode cX2_sumOfChildren 4 = .ok (.iload_n 3, 1) := by decide +kernel
theorem dX2_sumOfChildren_5 : decode cX2_sumOfChildren 5 = .ok (.aload_n 0, 1) := by decide +kernel
theorem dX2_sumOfChildren_6 : decode cX2_sumOfChildren 6 = .ok (.getfield 21, 3) := by decide +kernel
theorem dX2_sumOfChildren_9 : decode cX2_sumOfChildren 9 = .ok (.iload_n 1, 1) := by decide +kernel
theorem dX2_sumOfChildren_10 : decode cX2_sumOfChildren 10 = .ok (.iaload, 1) := by decide +kernel
theorem dX2_sumOfChildren_11 : decode cX2_sumOfChildren 11 = .ok (.if_icmp .ge 23, 3) := by decide +kernel
theorem dX2_sumOfChildren_14 : decode cX2_sumOfChildren 14 = .ok (.iload_n 2, 1) := by decide +kernel
theorem dX2_sumOfChildren_15 : decode cX2_sumOfChildren 15 = .ok (.aload_n 0, 1) := by decide +kernel
theorem dX2_sumOfChildren_16 : decode cX2_sumOfChildren 16 = .ok (.getfield 27, 3) := by decide +kernel
theorem dX2_sumOfChildren_19 : decode cX2_sumOfChildren 19 = .ok (.aload_n 0, 1) := by decide +kernel
theorem dX2_sumOfChildren_20 : decode cX2_sumOfChildren 20 = .ok (.iload_n 1, 1) := by decide +kernel
theorem dX2_sumOfChildren_21 : decode cX2_sumOfChildren 21 = .ok (.iload_n 3, 1) := by decide +kernel
theorem dX2_sumOfChildren_22 : decode cX2_sumOfChildren 22 = .ok (.invokevirtual 44, 3) := by decide +kernel
theorem dX2_sumOfChildren_25 : decode cX2_sumOfChildren 25 = .ok (.iaload, 1) := by decide +kernel
theorem dX2_sumOfChildren_26 : decode cX2_sumOfChildren 26 = .ok (.iadd, 1) := by decide +kernel
theorem dX2_sumOfChildren_27 : decode cX2_sumOfChildren 27 = .ok (.istore_n 2, 1) := by decide +kernel
theorem dX2_sumOfChildren_28 : decode cX2_sumOfChildren 28 = .ok (.iinc 3 1, 3) := by decide +kernel
theorem dX2_sumOfChildren_31 : decode cX2_sumOfChildren 31 = .ok (.goto (-27), 3) := by decide +kernel
theorem dX2_sumOfChildren_34 : decode cX2_sumOfChildren 34 = .ok (.iload_n 2, 1) := by decide +kernel
theorem dX2_sumOfChildren_35 : decode cX2_sumOfChildren 35 = .ok (.ireturn, 1) := by decide +kernel
theorem dX2_countLevels_0 : decode cX2_countLevels 0 = .ok (.iconst 0, 1) := by decide +kernel
theorem dX2_countLevels_1 : decode cX2_countLevels 1 = .ok (.istore_n 1, 1) := by decide +kernel
theorem dX2_countLevels_2 : decode cX2_countLevels 2 = .ok (.iconst 0, 1) := by decide +kernel
theorem dX2_countLevels_3 : decode cX2_countLevels 3 = .ok (.istore_n 2, 1) := by decide +kernel
theorem dX2_countLevels_4 : decode cX2_countLevels 4 = .ok (.iload_n 2, 1) := by decide +kernel
theorem dX2_countLevels_5 : decode cX2_countLevels 5 = .ok (.aload_n 0, 1) := by decide +kernel
theorem dX2_countLevels_6 : decode cX2_countLevels 6 = .ok (.getfield 30, 3) := by decide +kernel
theorem dX2_countLevels_9 : decode cX2_countLevels 9 = .ok (.if_icmp .ge 52, 3) := by decide +kernel
theorem dX2_countLevels_12 : decode cX2_countLevels 12 = .ok (.aload_n 0, 1) := by decide +kernel
theorem dX2_countLevels_13 : decode cX2_countLevels 13 = .ok (.getfield 27, 3) := by decide +kernel
theorem dX2_countLevels_16 : decode cX2_countLevels 16 = .ok (.iload_n 2, 1) := by decide +kernel
theorem dX2_countLevels_17 : decode cX2_countLevels 17 = .ok (.aload_n 0, 1) := by decide +kernel
theorem dX2_countLevels_18 : decode cX2_countLevels 18 = .ok (.getfield 18, 3) := by decide +kernel
theorem dX2_countLevels_21 : decode cX2_countLevels 21 = .ok (.iload_n 2, 1) := by decide +kernel
theorem dX2_countLevels_22 : decode cX2_countLevels 22 = .ok (.iaload, 1) := by decide +kernel
theorem dX2_countLevels_23 : decode cX2_countLevels 23 = .ok (.ifCond .ge 7, 3) := by decide +kernel
theorem dX2_countLevels_26 : decode cX2_countLevels 26 = .ok (.iconst 1, 1) := by decide +kernel
theorem dX2_countLevels_27 : decode cX2_countLevels 27 = .ok (.goto 16, 3) := by decide +kernel
theorem dX2_countLevels_30 : decode cX2_countLevels 30 = .ok (.aload_n 0, 1) := by decide +kernel
theorem dX2_countLevels_31 : decode cX2_countLevels 31 = .ok (.getfield 27, 3) := by decide +kernel
theorem dX2_countLevels_34 : decode cX2_countLevels 34 = .ok (.aload_n 0, 1) := by decide +kernel
theorem dX2_countLevels_35 : decode cX2_countLevels 35 = .ok (.getfield 18, 3) := by decide +kernel
theorem dX2_countLevels_38 : decode cX2_countLevels 38 = .ok (.iload_n 2, 1) := by decide +kernel
theorem dX2_countLevels_39 : decode cX2_countLevels 39 = .ok (.iaload, 1) := by decide +kernel
theorem dX2_countLevels_40 : decode cX2_countLevels 40 = .ok (.iaload, 1) := by decide +kernel
theorem dX2_countLevels_41 : decode cX2_countLevels 41 = .ok (.iconst 1, 1) := by decide +kernel
theorem dX2_countLevels_42 : decode cX2_countLevels 42 = .ok (.iadd, 1) := by decide +kernel
theorem dX2_countLevels_43 : decode cX2_countLevels 43 = .ok (.iastore, 1) := by decide +kernel
theorem dX2_countLevels_44 : decode cX2_countLevels 44 = .ok (.iload_n 1, 1) := by decide +kernel
theorem dX2_countLevels_45 : decode cX2_countLevels 45 = .ok (.aload_n 0, 1) := by decide +kernel
theorem dX2_countLevels_46 : decode cX2_countLevels 46 = .ok (.getfield 27, 3) := by decide +kernel
theorem dX2_countLevels_49 : decode cX2_countLevels 49 = .ok (.iload_n 2, 1) := by decide +kernel
theorem dX2_countLevels_50 : decode cX2_countLevels 50 = .ok (.iaload, 1) := by decide +kernel
theorem dX2_countLevels_51 : decode cX2_countLevels 51 = .ok (.invokestatic 53, 3) := by decide +kernel
theorem dX2_countLevels_54 : decode cX2_countLevels 54 = .ok (.istore_n 1, 1) := by decide +kernel
theorem dX2_countLevels_55 : decode cX2_countLevels 55 = .ok (.iinc 2 1, 3) := by decide +kernel
theorem dX2_countLevels_58 : decode cX2_countLevels 58 = .ok (.goto (-54), 3) := by decide +kernel
theorem dX2_countLevels_61 : decode cX2_countLevels 61 = .ok (.iload_n 1, 1) := by decide +kernel
theorem dX2_countLevels_62 : decode cX2_countLevels 62 = .ok (.ireturn, 1) := by decide +kernel
theorem dJ6_lowestOneBit_0f7a4_0 : decode cJ6_lowestOneBit_0f7a4 0 = .ok (.iload_n 0, 1) := by decide +kernel
theorem dJ6_lowestOneBit_0f7a4_1 : decode cJ6_lowestOneBit_0f7a4 1 = .ok (.iload_n 0, 1) := by decide +kernel
theorem dJ6_lowestOneBit_0f7a4_2 : decode cJ6_lowestOneBit_0f7a4 2 = .ok (.ineg, 1) := by decide +kernel
theorem dJ6_lowestOneBit_0f7a4_3 : decode cJ6_lowestOneBit_0f7a4 3 = .ok (.iand, 1) := by decide +kernel
theorem dJ6_lowestOneBit_0f7a4_4 : decode cJ6_lowestOneBit_0f7a4 4 = .ok (.ireturn, 1) := by decide +kernel
theorem dJ6_numberOfTrailingZeros_0f7a4_0 : decode cJ6_numberOfTrailingZeros_0f7a4 0 = .ok (.iload_n 0, 1) := by decide +kernel
theorem dJ6_numberOfTrailingZeros_0f7a4_1 : decode cJ6_numberOfTrailingZeros_0f7a4 1 = .ok (.iconst (-1), 1) := by decide +kernel
theorem dJ6_numberOfTrailingZeros_0f7a4_2 : decode cJ6_numberOfTrailingZeros_0f7a4 2 = .ok (.ixor, 1) := by decide +kernel
theorem dJ6_numberOfTrailingZeros_0f7a4_3 : decode cJ6_numberOfTrailingZeros_0f7a4 3 = .ok (.iload_n 0, 1) := by decide +kernel
theorem dJ6_numberOfTrailingZeros_0f7a4_4 : decode cJ6_numberOfTrailingZeros_0f7a4 4 = .ok (.iconst 1, 1) := by decide +kernel
theorem dJ6_numberOfTrailingZeros_0f7a4_5 : decode cJ6_numberOfTrailingZeros_0f7a4 5 = .ok (.isub, 1) := by decide +kernel
theorem dJ6_numberOfTrailingZeros_0f7a4_6 : decode cJ6_numberOfTrailingZeros_0f7a4 6 = .ok (.iand, 1) := by decide +kernel
theorem dJ6_numberOfTrailingZeros_0f7a4_7 : decode cJ6_numberOfTrailingZeros_0f7a4 7 = .ok (.istore_n 0, 1) := by decide +kernel
theorem dJ6_numberOfTrailingZeros_0f7a4_8 : decode cJ6_numberOfTrailingZeros_0f7a4 8 = .ok (.iload_n 0, 1) := by decide +kernel
theorem dJ6_numberOfTrailingZeros_0f7a4_9 : decode cJ6_numberOfTrailingZeros_0f7a4 9 = .ok (.ifCond .gt 8, 3) := by decide +kernel
theorem dJ6_numberOfTrailingZeros_0f7a4_12 : decode cJ6_numberOfTrailingZeros_0f7a4 12 = .ok (.iload_n 0, 1) := by decide +kernel
theorem dJ6_numberOfTrailingZeros_0f7a4_13 : decode cJ6_numberOfTrailingZeros_0f7a4 13 = .ok (.bipush 32, 2) := by decide +kernel
theorem dJ6_numberOfTrailingZeros_0f7a4_15 : decode cJ6_numberOfTrailingZeros_0f7a4 15 = .ok (.iand, 1) := by decide +kernel
theorem dJ6_numberOfTrailingZeros_0f7a4_16 : decode cJ6_numberOfTrailingZeros_0f7a4 16 = .ok (.ireturn, 1) := by decide +kernel
theorem dJ6_numberOfTrailingZeros_0f7a4_17 : decode cJ6_numberOfTrailingZeros_0f7a4 17 = .ok (.iconst 1, 1) := by decide +kernel
theorem dJ6_numberOfTrailingZeros_0f7a4_18 : decode cJ6_numberOfTrailingZeros_0f7a4 18 = .ok (.istore_n 1, 1) := by decide +kernel
theorem dJ6_numberOfTrailingZeros_0f7a4_19 : decode cJ6_numberOfTrailingZeros_0f7a4 19 = .ok (.iload_n 0, 1) := by decide +kernel
theorem dJ6_numberOfTrailingZeros_0f7a4_20 : decode cJ6_numberOfTrailingZeros_0f7a4 20 = .ok (.ldc_w 264, 3) := by decide +kernel
theorem dJ6_numberOfTrailingZeros_0f7a4_23 : decode cJ6_numberOfTrailingZeros_0f7a4 23 = .ok (.if_icmp .le 11, 3) := by decide +kernel
theorem dJ6_numberOfTrailingZeros_0f7a4_26 : decode cJ6_numberOfTrailingZeros_0f7a4 26 = .ok (.iinc 1 16, 3) := by decide +kernel
theorem dJ6_numberOfTrailingZeros_0f7a4_29 : decode cJ6_numberOfTrailingZeros_0f7a4 29 = .ok (.iload_n 0, 1) := by decide +kernel
theorem dJ6_numberOfTrailingZeros_0f7a4_30 : decode cJ6_numberOfTrailingZeros_0f7a4 30 = .ok (.bipush 16, 2) := by decide +kernel
theorem dJ6_numberOfTrailingZeros_0f7a4_32 : decode cJ6_numberOfTrailingZeros_0f7a4 32 = .ok (.iushr, 1) := by decide +kernel
theorem dJ6_numberOfTrailingZeros_0f7a4_33 : decode cJ6_numberOfTrailingZeros_0f7a4 33 = .ok (.istore_n 0, 1) := by decide +kernel
theorem dJ6_numberOfTrailingZeros_0f7a4_34 : decode cJ6_numberOfTrailingZeros_0f7a4 34 = .ok (.iload_n 0, 1) := by decide +kernel
theorem dJ6_numberOfTrailingZeros_0f7a4_35 : decode cJ6_numberOfTrailingZeros_0f7a4 35 = .ok (.sipush 256, 3) := by decide +kernel
theorem dJ6_numberOfTrailingZeros_0f7a4_38 : decode cJ6_numberOfTrailingZeros_0f7a4 38 = .ok (.if_icmp .le 11, 3) := by decide +kernel
theorem dJ6_numberOfTrailingZeros_0f7a4_41 : decode cJ6_numberOfTrailingZeros_0f7a4 41 = .ok (.iinc 1 8, 3) := by decide +kernel
theorem dJ6_numberOfTrailingZeros_0f7a4_44 : decode cJ6_numberOfTrailingZeros_0f7a4 44 = .ok (.iload_n 0, 1) := by decide +kernel
theorem dJ6_numberOfTrailingZeros_0f7a4_45 : decode cJ6_numberOfTrailingZeros_0f7a4 45 = .ok (.bipush 8, 2) := by decide +kernel
theorem dJ6_numberOfTrailingZeros_0f7a4_47 : decode cJ6_numberOfTrailingZeros_0f7a4 47 = .ok (.iushr, 1) := by decide +kernel
theorem dJ6_numberOfTrailingZeros_0f7a4_48 : decode cJ6_numberOfTrailingZeros_0f7a4 48 = .ok (.istore_n 0, 1) := by decide +kernel
theorem dJ6_numberOfTrailingZeros_0f7a4_49 : decode cJ6_numberOfTrailingZeros_0f7a4 49 = .ok (.iload_n 0, 1) := by decide +kernel
theorem dJ6_numberOfTrailingZeros_0f7a4_50 : decode cJ6_numberOfTrailingZeros_0f7a4 50 = .ok (.bipush 16, 2) := by decide +kernel
theorem dJ6_numberOfTrailingZeros_0f7a4_52 : decode cJ6_numberOfTrailingZeros_0f7a4 52 = .ok (.if_icmp .le 10, 3) := by decide +kernel
theorem dJ6_numberOfTrailingZeros_0f7a4_55 : decode cJ6_numberOfTrailingZeros_0f7a4 55 = .ok (.iinc 1 4, 3) := by decide +kernel
theorem dJ6_numberOfTrailingZeros_0f7a4_58 : decode cJ6_numberOfTrailingZeros_0f7a4 58 = .ok (.iload_n 0, 1) := by decide +kernel
theorem dJ6_numberOfTrailingZeros_0f7a4_59 : decode cJ6_numberOfTrailingZeros_0f7a4 59 = .ok (.iconst 4, 1) := by decide +kernel
theorem dJ6_numberOfTrailingZeros_0f7a4_60 : decode cJ6_numberOfTrailingZeros_0f7a4 60 = .ok (.iushr, 1) := by decide +kernel
theorem dJ6_numberOfTrailingZeros_0f7a4_61 : decode cJ6_numberOfTrailingZeros_0f7a4 61 = .ok (.istore_n 0, 1) := by decide +kernel
theorem dJ6_numberOfTrailingZeros_0f7a4_62 : decode cJ6_numberOfTrailingZeros_0f7a4 62 = .ok (.iload_n 0, 1) := by decide +kernel
theorem dJ6_numberOfTrailingZeros_0f7a4_63 : decode cJ6_numberOfTrailingZeros_0f7a4 63 = .ok (.iconst 4, 1) := by decide +kernel
theorem dJ6_numberOfTrailingZeros_0f7a4_64 : decode cJ6_numberOfTrailingZeros_0f7a4 64 = .ok (.if_icmp .le 10, 3) := by decide +kernel
theorem dJ6_numberOfTrailingZeros_0f7a4_67 : decode cJ6_numberOfTrailingZeros_0f7a4 67 = .ok (.iinc 1 2, 3) := by decide +kernel
theorem dJ6_numberOfTrailingZeros_0f7a4_70 : decode cJ6_numberOfTrailingZeros_0f7a4 70 = .ok (.iload_n 0, 1) := by decide +kernel
theorem dJ6_numberOfTrailingZeros_0f7a4_71 : decode cJ6_numberOfTrailingZeros_0f7a4 71 = .ok (.iconst 2, 1) := by decide +kernel
theorem dJ6_numberOfTrailingZeros_0f7a4_72 : decode cJ6_numberOfTrailingZeros_0f7a4 72 = .ok (.iushr, 1) := by decide +kernel
theorem dJ6_numberOfTrailingZeros_0f7a4_73 : decode cJ6_numberOfTrailingZeros_0f7a4 73 = .ok (.istore_n 0, 1) := by decide +kernel
theorem dJ6_numberOfTrailingZeros_0f7a4_74 : decode cJ6_numberOfTrailingZeros_0f7a4 74 = .ok (.iload_n 1, 1) := by decide +kernel
theorem dJ6_numberOfTrailingZeros_0f7a4_75 : decode cJ6_numberOfTrailingZeros_0f7a4 75 = .ok (.iload_n 0, 1) := by decide +kernel
theorem dJ6_numberOfTrailingZeros_0f7a4_76 : decode cJ6_numberOfTrailingZeros_0f7a4 76 = .ok (.iconst 1, 1) := by decide +kernel
theorem dJ6_numberOfTrailingZeros_0f7a4_77 : decode cJ6_numberOfTrailingZeros_0f7a4 77 = .ok (.iushr, 1) := by decide +kernel
theorem dJ6_numberOfTrailingZeros_0f7a4_78 : decode cJ6_numberOfTrailingZeros_0f7a4 78 = .ok (.iadd, 1) := by decide +kernel
theorem dJ6_numberOfTrailingZeros_0f7a4_79 : decode cJ6_numberOfTrailingZeros_0f7a4 79 = .ok (.ireturn, 1) := by decide +kernel
theorem dJ6_bitCount_0f7a4_0 : decode cJ6_bitCount_0f7a4 0 = .ok (.iload_n 0, 1) := by decide +kernel
theorem dJ6_bitCount_0f7a4_1 : decode cJ6_bitCount_0f7a4 1 = .ok (.iload_n 0, 1) := by decide +kernel
theorem dJ6_bitCount_0f7a4_2 : decode cJ6_bitCount_0f7a4 2 = .ok (.iconst 1, 1) := by decide +kernel
theorem dJ6_bitCount_0f7a4_3 : decode cJ6_bitCount_0f7a4 3 = .ok (.iushr, 1) := by decide +kernel
theorem dJ6_bitCount_0f7a4_4 : decode cJ6_bitCount_0f7a4 4 = .ok (.ldc_w 265, 3) := by decide +kernel
theorem dJ6_bitCount_0f7a4_7 : decode cJ6_bitCount_0f7a4 7 = .ok (.iand, 1) := by decide +kernel
theorem dJ6_bitCount_0f7a4_8 : decode cJ6_bitCount_0f7a4 8 = .ok (.isub, 1) := by decide +kernel
theorem dJ6_bitCount_0f7a4_9 : decode cJ6_bitCount_0f7a4 9 = .ok (.istore_n 0, 1) := by decide +kernel
theorem dJ6_bitCount_0f7a4_10 : decode cJ6_bitCount_0f7a4 10 = .ok (.iload_n 0, 1) := by decide +kernel
theorem dJ6_bitCount_0f7a4_11 : decode cJ6_bitCount_0f7a4 11 = .ok (.ldc_w 266, 3) := by decide +kernel
theorem dJ6_bitCount_0f7a4_14 : decode cJ6_bitCount_0f7a4 14 = .ok (.iand, 1) := by decide +kernel
theorem dJ6_bitCount_0f7a4_15 : decode cJ6_bitCount_0f7a4 15 = .ok (.iload_n 0, 1) := by decide +kernel
theorem dJ6_bitCount_0f7a4_16 : decode cJ6_bitCount_0f7a4 16 = .ok (.iconst 2, 1) := by decide +kernel
theorem dJ6_bitCount_0f7a4_17 : decode cJ6_bitCount_0f7a4 17 = .ok (.iushr, 1) := by decide +kernel
theorem dJ6_bitCount_0f7a4_18 : decode cJ6_bitCount_0f7a4 18 = .ok (.ldc_w 266, 3) := by decide +kernel
theorem dJ6_bitCount_0f7a4_21 : decode cJ6_bitCount_0f7a4 21 = .ok (.iand, 1) := by decide +kernel
theorem dJ6_bitCount_0f7a4_22 : decode cJ6_bitCount_0f7a4 22 = .ok (.iadd, 1) := by decide +kernel
theorem dJ6_bitCount_0f7a4_23 : decode cJ6_bitCount_0f7a4 23 = .ok (.istore_n 0, 1) := by decide +kernel
theorem dJ6_bitCount_0f7a4_24 : decode cJ6_bitCount_0f7a4 24 = .ok (.iload_n 0, 1) := by decide +kernel
theorem dJ6_bitCount_0f7a4_25 : decode cJ6_bitCount_0f7a4 25 = .ok (.iload_n 0, 1) := by decide +kernel
theorem dJ6_bitCount_0f7a4_26 : decode cJ6_bitCount_0f7a4 26 = .ok (.iconst 4, 1) := by decide +kernel
theorem dJ6_bitCount_0f7a4_27 : decode cJ6_bitCount_0f7a4 27 = .ok (.iushr, 1) := by decide +kernel
theorem dJ6_bitCount_0f7a4_28 : decode cJ6_bitCount_0f7a4 28 = .ok (.iadd, 1) := by decide +kernel
theorem dJ6_bitCount_0f7a4_29 : decode cJ6_bitCount_0f7a4 29 = .ok (.ldc_w 267, 3) := by decide +kernel
theorem dJ6_bitCount_0f7a4_32 : decode cJ6_bitCount_0f7a4 32 = .ok (.iand, 1) := by decide +kernel
theorem dJ6_bitCount_0f7a4_33 : decode cJ6_bitCount_0f7a4 33 = .ok (.istore_n 0, 1) := by decide +kernel
theorem dJ6_bitCount_0f7a4_34 : decode cJ6_bitCount_0f7a4 34 = .ok (.iload_n 0, 1) := by decide +kernel
theorem dJ6_bitCount_0f7a4_35 : decode cJ6_bitCount_0f7a4 35 = .ok (.iload_n 0, 1) := by decide +kernel
theorem dJ6_bitCount_0f7a4_36 : decode cJ6_bitCount_0f7a4 36 = .ok (.bipush 8, 2) := by decide +kernel
theorem dJ6_bitCount_0f7a4_38 : decode cJ6_bitCount_0f7a4 38 = .ok (.iushr, 1) := by decide +kernel
theorem dJ6_bitCount_0f7a4_39 : decode cJ6_bitCount_0f7a4 39 = .ok (.iadd, 1) := by decide +kernel
theorem dJ6_bitCount_0f7a4_40 : decode cJ6_bitCount_0f7a4 40 = .ok (.istore_n 0, 1) := by decide +kernel
theorem dJ6_bitCount_0f7a4_41 : decode cJ6_bitCount_0f7a4 41 = .ok (.iload_n 0, 1) := by decide +kernel
theorem dJ6_bitCount_0f7a4_42 : decode cJ6_bitCount_0f7a4 42 = .ok (.iload_n 0, 1) := by decide +kernel
theorem dJ6_bitCount_0f7a4_43 : decode cJ6_bitCount_0f7a4 43 = .ok (.bipush 16, 2) := by decide +kernel
theorem dJ6_bitCount_0f7a4_45 : decode cJ6_bitCount_0f7a4 45 = .ok (.iushr, 1) := by decide +kernel
theorem dJ6_bitCount_0f7a4_46 : decode cJ6_bitCount_0f7a4 46 = .ok (.iadd, 1) := by decide +kernel
theorem dJ6_bitCount_0f7a4_47 : decode cJ6_bitCount_0f7a4 47 = .ok (.istore_n 0, 1) := by decide +kernel
theorem dJ6_bitCount_0f7a4_48 : decode cJ6_bitCount_0f7a4 48 = .ok (.iload_n 0, 1) := by decide +kernel
theorem dJ6_bitCount_0f7a4_49 : decode cJ6_bitCount_0f7a4 49 = .ok (.bipush 63, 2) := by decide +kernel
theorem dJ6_bitCount_0f7a4_51 : decode cJ6_bitCount_0f7a4 51 = .ok (.iand, 1) := by decide +kernel
theorem dJ6_bitCount_0f7a4_52 : decode cJ6_bitCount_0f7a4 52 = .ok (.ireturn, 1) := by decide +kernel
theorem dJ9_max_7cf53_0 : decode cJ9_max_7cf53 0 = .ok (.iload_n 0, 1) := by decide +kernel
theorem dJ9_max_7cf53_1 : decode cJ9_max_7cf53 1 = .ok (.iload_n 1, 1) := by decide +kernel
theorem dJ9_max_7cf53_2 : decode cJ9_max_7cf53 2 = .ok (.if_icmp .lt 7, 3) := by decide +kernel
theorem dJ9_max_7cf53_5 : decode cJ9_max_7cf53 5 = .ok (.iload_n 0, 1) := by decide +kernel
theorem dJ9_max_7cf53_6 : decode cJ9_max_7cf53 6 = .ok (.goto 4, 3) := by decide +kernel
theorem dJ9_max_7cf53_9 : decode cJ9_max_7cf53 9 = .ok (.iload_n 1, 1) := by decide +kernel
theorem dJ9_max_7cf53_10 : decode cJ9_max_7cf53 10 = .ok (.ireturn, 1) := by decide +kernel
theorem dJ9_min_7cf53_0 : decode cJ9_min_7cf53 0 = .ok (.iload_n 0, 1) := by decide +kernel
theorem dJ9_min_7cf53_1 : decode cJ9_min_7cf53 1 = .ok (.iload_n 1, 1) := by decide +kernel
theorem dJ9_min_7cf53_2 : decode cJ9_min_7cf53 2 = .ok (.if_icmp .gt 7, 3) := by decide +kernel
theorem dJ9_min_7cf53_5 : decode cJ9_min_7cf53 5 = .ok (.iload_n 0, 1) := by decide +kernel
theorem dJ9_min_7cf53_6 : decode cJ9_min_7cf53 6 = .ok (.goto 4, 3) := by decide +kernel
theorem dJ9_min_7cf53_9 : decode cJ9_min_7cf53 9 = .ok (.iload_n 1, 1) := by decide +kernel
theorem dJ9_min_7cf53_10 : decode cJ9_min_7cf53 10 = .ok (.ireturn, 1) := by decide +kernel
end
section
theorem dX3_init_0 : decode cX3_init 0 = .ok (.aload_n 0, 1) := by decide +kernel
theorem dX3_init_1 : decode cX3_init 1 = .ok (.invokespecial 3, 3) := by decide +kernel
theorem dX3_init_4 : decode cX3_init 4 = .ok (.aload_n 0, 1) := by decide +kernel
theorem dX3_init_5 : decode cX3_init 5 = .ok (.bipush 12, 2) := by decide +kernel
theorem dX3_init_7 : decode cX3_init 7 = .ok (.newarray .int, 2) := by decide +kernel
theorem dX3_init_9 : decode cX3_init 9 = .ok (.putfield 9, 3) := by decide +kernel
theorem dX3_init_12 : decode cX3_init 12 = .ok (.aload_n 0, 1) := by decide +kernel
theorem dX3_init_13 : decode cX3_init 13 = .ok (.iconst 0, 1) := by decide +kernel
theorem dX3_init_14 : decode cX3_init 14 = .ok (.putfield 13, 3) := by decide +kernel
theorem dX3_init_17 : decode cX3_init 17 = .ok (.aload_n 0, 1) := by decide +kernel
theorem dX3_init_18 : decode cX3_init 18 = .ok (.bipush 120, 2) := by decide +kernel
theorem dX3_init_20 : decode cX3_init 20 = .ok (.newarray .int, 2) := by decide +kernel
theorem dX3_init_22 : decode cX3_init 22 = .ok (.putfield 17, 3) := by decide +kernel
theorem dX3_init_25 : decode cX3_init 25 = .ok (.aload_n 0, 1) := by decide +kernel
theorem dX3_init_26 : decode cX3_init 26 = .ok (.bipush 10, 2) := by decide +kernel
theorem dX3_init_28 : decode cX3_init 28 = .ok (.newarray .int, 2) := by decide +kernel
theorem dX3_init_30 : decode cX3_init 30 = .ok (.putfield 20, 3) := by decide +kernel
theorem dX3_init_33 : decode cX3_init 33 = .ok (.aload_n 0, 1) := by decide +kernel
theorem dX3_init_34 : decode cX3_init 34 = .ok (.bipush 10, 2) := by decide +kernel
theorem dX3_init_36 : decode cX3_init 36 = .ok (.newarray .int, 2) := by decide +kernel
theorem dX3_init_38 : decode cX3_init 38 = .ok (.putfield 23, 3) := by decide +kernel
theorem dX3_init_41 : decode cX3_init 41 = .ok (.aload_n 0, 1) := by decide +kernel
theorem dX3_init_42 : decode cX3_init 42 = .ok (.iconst 0, 1) := by decide +kernel
theorem dX3_init_43 : decode cX3_init 43 = .ok (.putfield 26, 3) := by decide +kernel
theorem dX3_init_46 : decode cX3_init 46 = .ok (.aload_n 0, 1) := by decide +kernel
theorem dX3_init_47 : decode cX3_init 47 = .ok (.bipush 16, 2) := by decide +kernel
theorem dX3_init_49 : decode cX3_init 49 = .ok (.anewarray 29, 3) := by decide +kernel
theorem dX3_init_52 : decode cX3_init 52 = .ok (.putfield 31, 3) := by decide +kernel
theorem dX3_init_55 : decode cX3_init 55 = .ok (.aload_n 0, 1) := by decide +kernel
theorem dX3_init_56 : decode cX3_init 56 = .ok (.new 35, 3) := by decide +kernel
theorem dX3_init_59 : decode cX3_init 59 = .ok (.dup, 1) := by decide +kernel
theorem dX3_init_60 : decode cX3_init 60 = .ok (.invokespecial 37, 3) := by decide +kernel
theorem dX3_init_63 : decode cX3_init 63 = .ok (.putfield 38, 3) := by decide +kernel
theorem dX3_init_66 : decode cX3_init 66 = .ok (.aload_n 0, 1) := by decide +kernel
theorem dX3_init_67 : decode cX3_init 67 = .ok (.new 42, 3) := by decide +kernel
theorem dX3_init_70 : decode cX3_init 70 = .ok (.dup, 1) := by decide +kernel
theorem dX3_init_71 : decode cX3_init 71 = .ok (.aload_n 0, 1) := by decide +kernel
theorem dX3_init_72 : decode cX3_init 72 = .ok (.getfield 38, 3) := by decide +kernel
theorem dX3_init_75 : decode cX3_init 75 = .ok (.invokespecial 44, 3) := by decide +kernel
theorem dX3_init_78 : decode cX3_init 78 = .ok (.putfield 47, 3) := by decide +kernel
theorem dX3_init_81 : decode cX3_init 81 = .ok (.aload_n 0, 1) := by decide +kernel
theorem dX3_init_82 : decode cX3_init 82 = .ok (.iconst 0, 1) := by decide +kernel
theorem dX3_init_83 : decode cX3_init 83 = .ok (.putfield 51, 3) := by decide +kernel
theorem dX3_init_86 : decode cX3_init 86 = .ok (.iconst 0, 1) := by decide +kernel
theorem dX3_init_87 : decode cX3_init 87 = .ok (.istore_n 1, 1) := by decide +kernel
theorem dX3_init_88 : decode cX3_init 88 = .ok (.iload_n 1, 1) := by decide +kernel
theorem dX3_init_89 : decode cX3_init 89 = .ok (.bipush 16, 2) := by decide +kernel
theorem dX3_init_91 : decode cX3_init 91 = .ok (.if_icmp .ge 22, 3) := by decide +kernel
theorem dX3_init_94 : decode cX3_init 94 = .ok (.aload_n 0, 1) := by decide +kernel
theorem dX3_init_95 : decode cX3_init 95 = .ok (.getfield 31, 3) := by decide +kernel
theorem dX3_init_98 : decode cX3_init 98 = .ok (.iload_n 1, 1) := by decide +kernel
theorem dX3_init_99 : decode cX3_init 99 = .ok (.new 29, 3) := by decide +kernel
theorem dX3_init_102 : decode cX3_init 102 = .ok (.dup, 1) := by decide +kernel
theorem dX3_init_103 : decode cX3_init 103 = .ok (.invokespecial 55, 3) := by decide +kernel
theorem dX3_init_106 : decode cX3_init 106 = .ok (.aastore, 1) := by decide +kernel
theorem dX3_init_107 : decode cX3_init 107 = .ok (.iinc 1 1, 3) := by decide +kernel
theorem dX3_init_110 : decode cX3_init 110 = .ok (.goto (-22), 3) := by decide +kernel
theorem dX3_init_113 : decode cX3_init 113 = .ok (.return_, 1) := by decide +kernel
theorem dX3_event_0 : decode cX3_event 0 = .ok (.iload_n 1, 1) := by decide +kernel
theorem dX3_event_1 : decode cX3_event 1 = .ok (.invokestatic 56, 3) := by decide +kernel
theorem dX3_event_4 : decode cX3_event 4 = .ok (.aload_n 0, 1) := by decide +kernel
theorem dX3_event_5 : decode cX3_event 5 = .ok (.getfield 13, 3) := by decide +kernel
theorem dX3_event_8 : decode cX3_event 8 = .ok (.bipush 12, 2) := by decide +kernel
theorem dX3_event_10 : decode cX3_event 10 = .ok (.if_icmp .lt 13, 3) := by decide +kernel
theorem dX3_event_13 : decode cX3_event 13 = .ok (.new 60, 3) := by decide +kernel
theorem dX3_event_16 : decode cX3_event 16 = .ok (.dup, 1) := by decide +kernel
theorem dX3_event_17 : decode cX3_event 17 = .ok (.ldc 62, 2) := by decide +kernel
theorem dX3_event_19 : decode cX3_event 19 = .ok (.invokespecial 64, 3) := by decide +kernel
theorem dX3_event_22 : decode cX3_event 22 = .ok (.athrow, 1) := by decide +kernel
theorem dX3_event_23 : decode cX3_event 23 = .ok (.aload_n 0, 1) := by decide +kernel
theorem dX3_event_24 : decode cX3_event 24 = .ok (.getfield 9, 3) := by decide +kernel
theorem dX3_event_27 : decode cX3_event 27 = .ok (.aload_n 0, 1) := by decide +kernel
theorem dX3_event_28 : decode cX3_event 28 = .ok (.getfield 13, 3) := by decide +kernel
theorem dX3_event_31 : decode cX3_event 31 = .ok (.iload_n 1, 1) := by decide +kernel
theorem dX3_event_32 : decode cX3_event 32 = .ok (.iastore, 1) := by decide +kernel
theorem dX3_event_33 : decode cX3_event 33 = .ok (.aload_n 0, 1) := by decide +kernel
theorem dX3_event_34 : decode cX3_event 34 = .ok (.dup, 1) := by decide +kernel
theorem dX3_event_35 : decode cX3_event 35 = .ok (.getfield 13, 3) := by decide +kernel
theorem dX3_event_38 : decode cX3_event 38 = .ok (.iconst 1, 1) := by decide +kernel
theorem dX3_event_39 : decode cX3_event 39 = .ok (.iadd, 1) := by decide +kernel
theorem dX3_event_40 : decode cX3_event 40 = .ok (.putfield 13, 3) := by decide +kernel
theorem dX3_event_43 : decode cX3_event 43 = .ok (.aload_n 0, 1) := by decide +kernel
theorem dX3_event_44 : decode cX3_event 44 = .ok (.getfield 13, 3) := by decide +kernel
theorem dX3_event_47 : decode cX3_event 47 = .ok (.ireturn, 1) := by decide +kernel
theorem dX3_endTrace_0 : decode cX3_endTrace 0 = .ok (.iload_n 1, 1) := by decide +kernel
theorem dX3_endTrace_1 : decode cX3_endTrace 1 = .ok (.invokestatic 67, 3) := by decide +kernel
theorem dX3_endTrace_4 : decode cX3_endTrace 4 = .ok (.aload_n 0, 1) := by decide +kernel
theorem dX3_endTrace_5 : decode cX3_endTrace 5 = .ok (.getfield 26, 3) := by decide +kernel
theorem dX3_endTrace_8 : decode cX3_endTrace 8 = .ok (.bipush 10, 2) := by decide +kernel
theorem dX3_endTrace_10 : decode cX3_endTrace 10 = .ok (.if_icmp .lt 13, 3) := by decide +kernel
theorem dX3_endTrace_13 : decode cX3_endTrace 13 = .ok (.new 60, 3) := by decide +kernel
theorem dX3_endTrace_16 : decode cX3_endTrace 16 = .ok (.dup, 1) := by decide +kernel
theorem dX3_endTrace_17 : decode cX3_endTrace 17 = .ok (.ldc 70, 2) := by decide +kernel
theorem dX3_endTrace_19 : decode cX3_endTrace 19 = .ok (.invokespecial 64, 3) := by decide +kernel
theorem dX3_endTrace_22 : decode cX3_endTrace 22 = .ok (.athrow, 1) := by decide +kernel
theorem dX3_endTrace_23 : decode cX3_endTrace 23 = .ok (.aload_n 0, 1) := by decide +kernel
theorem dX3_endTrace_24 : decode cX3_endTrace 24 = .ok (.getfield 26, 3) := by decide +kernel
theorem dX3_endTrace_27 : decode cX3_endTrace 27 = .ok (.istore_n 2, 1) := by decide +kernel
theorem dX3_endTrace_28 : decode cX3_endTrace 28 = .ok (.iconst 0, 1) := by decide +kernel
theorem dX3_endTrace_29 : decode cX3_endTrace 29 = .ok (.istore_n 3, 1) := by decide +kernel
theorem dX3_endTrace_30 : decode cX3_endTrace 30 = .ok (.iload_n 3, 1) := by decide +kernel
theorem dX3_endTrace_31 : decode cX3_endTrace 31 = .ok (.aload_n 0, 1) := by decide +kernel
theorem dX3_endTrace_32 : decode cX3_endTrace 32 = .ok (.getfield 13, 3) := by decide +kernel
theorem dX3_endTrace_35 : decode cX3_endTrace 35 = .ok (.if_icmp .ge 26, 3) := by decide +kernel
theorem dX3_endTrace_38 : decode cX3_endTrace 38 = .ok (.aload_n 0, 1) := by decide +kernel
theorem dX3_endTrace_39 : decode cX3_endTrace 39 = .ok (.getfield 17, 3) := by decide +kernel
theorem dX3_endTrace_42 : decode cX3_endTrace 42 = .ok (.iload_n 2, 1) := by decide +kernel
theorem dX3_endTrace_43 : decode cX3_endTrace 43 = .ok (.bipush 12, 2) := by decide +kernel
theorem dX3_endTrace_45 : decode cX3_endTrace 45 = .ok (.imul, 1) := by decide +kernel
theorem dX3_endTrace_46 : decode cX3_endTrace 46 = .ok (.iload_n 3, 1) := by decide +kernel
theorem dX3_endTrace_47 : decode cX3_endTrace 47 = .ok (.iadd, 1) := by decide +kernel
theorem dX3_endTrace_48 : decode cX3_endTrace 48 = .ok (.aload_n 0, 1) := by decide +kernel
theorem dX3_endTrace_49 : decode cX3_endTrace 49 = .ok (.getfield 9, 3) := by decide +kernel
theorem dX3_endTrace_52 : decode cX3_endTrace 52 = .ok (.iload_n 3, 1) := by decide +kernel
theorem dX3_endTrace_53 : decode cX3_endTrace 53 = .ok (.iaload, 1) := by decide +kernel
theorem dX3_endTrace_54 : decode cX3_endTrace 54 = .ok (.iastore, 1) := by decide +kernel
theorem dX3_endTrace_55 : decode cX3_endTrace 55 = .ok (.iinc 3 1, 3) := by decide +kernel
theorem dX3_endTrace_58 : decode cX3_endTrace 58 = .ok (.goto (-28), 3) := by decide +kernel
theorem dX3_endTrace_61 : decode cX3_endTrace 61 = .ok (.aload_n 0, 1) := by decide +kernel
theorem dX3_endTrace_62 : decode cX3_endTrace 62 = .ok (.getfield 20, 3) := by decide +kernel
theorem dX3_endTrace_65 : decode cX3_endTrace 65 = .ok (.iload_n 2, 1) := by decide +kernel
theorem dX3_endTrace_66 : decode cX3_endTrace 66 = .ok (.aload_n 0, 1) := by decide +kernel
theorem dX3_endTrace_67 : decode cX3_endTrace 67 = .ok (.getfield 13, 3) := by decide +kernel
theorem dX3_endTrace_70 : decode cX3_endTrace 70 = .ok (.iastore, 1) := by decide +kernel
theorem dX3_endTrace_71 : decode cX3_endTrace 71 = .ok (.aload_n 0, 1) := by decide +kernel
theorem dX3_endTrace_72 : decode cX3_endTrace 72 = .ok (.getfield 23, 3) := by decide +kernel
theorem dX3_endTrace_75 : decode cX3_endTrace 75 = .ok (.iload_n 2, 1) := by decide +kernel
theorem dX3_endTrace_76 : decode cX3_endTrace 76 = .ok (.iload_n 1, 1) := by decide +kernel
theorem dX3_endTrace_77 : decode cX3_endTrace 77 = .ok (.iastore, 1) := by decide +kernel
theorem dX3_endTrace_78 : decode cX3_endTrace 78 = .ok (.aload_n 0, 1) := by decide +kernel
theorem dX3_endTrace_79 : decode cX3_endTrace 79 = .ok (.dup, 1) := by decide +kernel
theorem dX3_endTrace_80 : decode cX3_endTrace 80 = .ok (.getfield 26, 3) := by decide +kernel
theorem dX3_endTrace_83 : decode cX3_endTrace 83 = .ok (.iconst 1, 1) := by decide +kernel
theorem dX3_endTrace_84 : decode cX3_endTrace 84 = .ok (.iadd, 1) := by decide +kernel
theorem dX3_endTrace_85 : decode cX3_endTrace 85 = .ok (.putfield 26, 3) := by decide +kernel
theorem dX3_endTrace_88 : decode cX3_endTrace 88 = .ok (.aload_n 0, 1) := by decide +kernel
theorem dX3_endTrace_89 : decode cX3_endTrace 89 = .ok (.iconst 0, 1) := by decide +kernel
theorem dX3_endTrace_90 : decode cX3_endTrace 90 = .ok (.putfield 13, 3) := by decide +kernel
theorem dX3_endTrace_93 : decode cX3_endTrace 93 = .ok (.aload_n 0, 1) := by decide +kernel
theorem dX3_endTrace_94 : decode cX3_endTrace 94 = .ok (.iconst 0, 1) := by decide +kernel
theorem dX3_endTrace_95 : decode cX3_endTrace 95 = .ok (.putfield 51, 3) := by decide +kernel
theorem dX3_endTrace_98 : decode cX3_endTrace 98 = .ok (.iload_n 2, 1) := by decide +kernel
theorem dX3_endTrace_99 : decode cX3_endTrace 99 = .ok (.ireturn, 1) := by decide +kernel
theorem dX3_setTimes_0 : decode cX3_setTimes 0 = .ok (.aload_n 0, 1) := by decide +kernel
theorem dX3_setTimes_1 : decode cX3_setTimes 1 = .ok (.iload_n 1, 1) := by decide +kernel
theorem dX3_setTimes_2 : decode cX3_setTimes 2 = .ok (.invokevirtual 72, 3) := by decide +kernel
theorem dX3_setTimes_5 : decode cX3_setTimes 5 = .ok (.iload_n 2, 1) := by decide +kernel
theorem dX3_setTimes_6 : decode cX3_setTimes 6 = .ok (.invokestatic 67, 3) := by decide +kernel
theorem dX3_setTimes_9 : decode cX3_setTimes 9 = .ok (.aload_n 0, 1) := by decide +kernel
theorem dX3_setTimes_10 : decode cX3_setTimes 10 = .ok (.getfield 23, 3) := by decide +kernel
theorem dX3_setTimes_13 : decode cX3_setTimes 13 = .ok (.iload_n 1, 1) := by decide +kernel
theorem dX3_setTimes_14 : decode cX3_setTimes 14 = .ok (.iaload, 1) := by decide +kernel
theorem dX3_setTimes_15 : decode cX3_setTimes 15 = .ok (.istore_n 3, 1) := by decide +kernel
theorem dX3_setTimes_16 : decode cX3_setTimes 16 = .ok (.aload_n 0, 1) := by decide +kernel
theorem dX3_setTimes_17 : decode cX3_setTimes 17 = .ok (.getfield 23, 3) := by decide +kernel
theorem dX3_setTimes_20 : decode cX3_setTimes 20 = .ok (.iload_n 1, 1) := by decide +kernel
theorem dX3_setTimes_21 : decode cX3_setTimes 21 = .ok (.iload_n 2, 1) := by decide +kernel
theorem dX3_setTimes_22 : decode cX3_setTimes 22 = .ok (.iastore, 1) := by decide +kernel
theorem dX3_setTimes_23 : decode cX3_setTimes 23 = .ok (.aload_n 0, 1) := by decide +kernel
theorem dX3_setTimes_24 : decode cX3_setTimes 24 = .ok (.iconst 0, 1) := by decide +kernel
theorem dX3_setTimes_25 : decode cX3_setTimes 25 = .ok (.putfield 51, 3) := by decide +kernel
theorem dX3_setTimes_28 : decode cX3_setTimes 28 = .ok (.iload_n 3, 1) := by decide +kernel
theorem dX3_setTimes_29 : decode cX3_setTimes 29 = .ok (.ireturn, 1) := by decide +kernel
theorem dX3_dropTrace_0 : decode cX3_dropTrace 0 = .ok (.aload_n 0, 1) := by decide +kernel
theorem dX3_dropTrace_1 : decode cX3_dropTrace 1 = .ok (.getfield 26, 3) := by decide +kernel
theorem dX3_dropTrace_4 : decode cX3_dropTrace 4 = .ok (.ifCond .gt 13, 3) := by decide +kernel
theorem dX3_dropTrace_7 : decode cX3_dropTrace 7 = .ok (.new 60, 3) := by decide +kernel
theorem dX3_dropTrace_10 : decode cX3_dropTrace 10 = .ok (.dup, 1) := by decide +kernel
theorem dX3_dropTrace_11 : decode cX3_dropTrace 11 = .ok (.ldc 75, 2) := by decide +kernel
theorem dX3_dropTrace_13 : decode cX3_dropTrace 13 = .ok (.invokespecial 64, 3) := by decide +kernel
theorem dX3_dropTrace_16 : decode cX3_dropTrace 16 = .ok (.athrow, 1) := by decide +kernel
theorem dX3_dropTrace_17 : decode cX3_dropTrace 17 = .ok (.aload_n 0, 1) := by decide +kernel
theorem dX3_dropTrace_18 : decode cX3_dropTrace 18 = .ok (.dup, 1) := by decide +kernel
theorem dX3_dropTrace_19 : decode cX3_dropTrace 19 = .ok (.getfield 26, 3) := by decide +kernel
theorem dX3_dropTrace_22 : decode cX3_dropTrace 22 = .ok (.iconst 1, 1) := by decide +kernel
theorem dX3_dropTrace_23 : decode cX3_dropTrace 23 = .ok (.isub, 1) := by decide +kernel
theorem dX3_dropTrace_24 : decode cX3_dropTrace 24 = .ok (.putfield 26, 3) := by decide +kernel
theorem dX3_dropTrace_27 : decode cX3_dropTrace 27 = .ok (.aload_n 0, 1) := by decide +kernel
theorem dX3_dropTrace_28 : decode cX3_dropTrace 28 = .ok (.iconst 0, 1) := by decide +kernel
theorem dX3_dropTrace_29 : decode cX3_dropTrace 29 = .ok (.putfield 51, 3) := by decide +kernel
theorem dX3_dropTrace_32 : decode cX3_dropTrace 32 = .ok (.aload_n 0, 1) := by decide +kernel
theorem dX3_dropTrace_33 : decode cX3_dropTrace 33 = .ok (.getfield 26, 3) := by decide +kernel
theorem dX3_dropTrace_36 : decode cX3_dropTrace 36 = .ok (.ireturn, 1) := by decide +kernel
theorem dX3_traceCount_0 : decode cX3_traceCount 0 = .ok (.aload_n 0, 1) := by decide +kernel
theorem dX3_traceCount_1 : decode cX3_traceCount 1 = .ok (.getfield 26, 3) := by decide +kernel
theorem dX3_traceCount_4 : decode cX3_traceCount 4 = .ok (.ireturn, 1) := by decide +kernel
theorem dX3_length_0 : decode cX3_length 0 = .ok (.aload_n 0, 1) := by decide +kernel
theorem dX3_length_1 : decode cX3_length 1 = .ok (.iload_n 1, 1) := by decide +kernel
theorem dX3_length_2 : decode cX3_length 2 = .ok (.invokevirtual 72, 3) := by decide +kernel
theorem dX3_length_5 : decode cX3_length 5 = .ok (.aload_n 0, 1) := by decide +kernel
theorem dX3_length_6 : decode cX3_length 6 = .ok (.getfield 20, 3) := by decide +kernel
theorem dX3_length_9 : decode cX3_length 9 = .ok (.iload_n 1, 1) := by decide +kernel
theorem dX3_length_10 : decode cX3_length 10 = .ok (.iaload, 1) := by decide +kernel
theorem dX3_length_11 : decode cX3_length 11 = .ok (.ireturn, 1) := by decide +kernel
theorem dX3_labelAt_0 : decode cX3_labelAt 0 = .ok (.aload_n 0, 1) := by decide +kernel
theorem dX3_labelAt_1 : decode cX3_labelAt 1 = .ok (.iload_n 1, 1) := by decide +kernel
theorem dX3_labelAt_2 : decode cX3_labelAt 2 = .ok (.invokevirtual 72, 3) := by decide +kernel
theorem dX3_labelAt_5 : decode cX3_labelAt 5 = .ok (.iload_n 2, 1) := by decide +kernel
theorem dX3_labelAt_6 : decode cX3_labelAt 6 = .ok (.ifCond .lt 13, 3) := by decide +kernel
theorem dX3_labelAt_9 : decode cX3_labelAt 9 = .ok (.iload_n 2, 1) := by decide +kernel
theorem dX3_labelAt_10 : decode cX3_labelAt 10 = .ok (.aload_n 0, 1) := by decide +kernel
theorem dX3_labelAt_11 : decode cX3_labelAt 11 = .ok (.getfield 20, 3) := by decide +kernel
theorem dX3_labelAt_14 : decode cX3_labelAt 14 = .ok (.iload_n 1, 1) := by decide +kernel
theorem dX3_labelAt_15 : decode cX3_labelAt 15 = .ok (.iaload, 1) := by decide +kernel
theorem dX3_labelAt_16 : decode cX3_labelAt 16 = .ok (.if_icmp .lt 13, 3) := by decide +kernel
theorem dX3_labelAt_19 : decode cX3_labelAt 19 = .ok (.new 77, 3) := by decide +kernel
theorem dX3_labelAt_22 : decode cX3_labelAt 22 = .ok (.dup, 1) := by decide +kernel
theorem dX3_labelAt_23 : decode cX3_labelAt 23 = .ok (.ldc 79, 2) := by decide +kernel
theorem dX3_labelAt_25 : decode cX3_labelAt 25 = .ok (.invokespecial 81, 3) := by decide +kernel
theorem dX3_labelAt_28 : decode cX3_labelAt 28 = .ok (.athrow, 1) := by decide +kernel
theorem dX3_labelAt_29 : decode cX3_labelAt 29 = .ok (.aload_n 0, 1) := by decide +kernel
theorem dX3_labelAt_30 : decode cX3_labelAt 30 = .ok (.getfield 17, 3) := by decide +kernel
theorem dX3_labelAt_33 : decode cX3_labelAt 33 = .ok (.iload_n 1, 1) := by decide +kernel
theorem dX3_labelAt_34 : decode cX3_labelAt 34 = .ok (.bipush 12, 2) := by decide +kernel
theorem dX3_labelAt_36 : decode cX3_labelAt 36 = .ok (.imul, 1) := by decide +kernel
theorem dX3_labelAt_37 : decode cX3_labelAt 37 = .ok (.iload_n 2, 1) := by decide +kernel
theorem dX3_labelAt_38 : decode cX3_labelAt 38 = .ok (.iadd, 1) := by decide +kernel
theorem dX3_labelAt_39 : decode cX3_labelAt 39 = .ok (.iaload, 1) := by decide +kernel
theorem dX3_labelAt_40 : decode cX3_labelAt 40 = .ok (.ireturn, 1) := by decide +kernel
theorem dX3_labels_0 : decode cX3_labels 0 = .ok (.aload_n 0, 1) := by decide +kernel
theorem dX3_labels_1 : decode cX3_labels 1 = .ok (.invokevirtual 82, 3) := by decide +kernel
theorem dX3_labels_4 : decode cX3_labels 4 = .ok (.getfield 86, 3) := by decide +kernel
theorem dX3_labels_7 : decode cX3_labels 7 = .ok (.ireturn, 1) := by decide +kernel
theorem dX3_follows_0 : decode cX3_follows 0 = .ok (.iload_n 1, 1) := by decide +kernel
theorem dX3_follows_1 : decode cX3_follows 1 = .ok (.invokestatic 56, 3) := by decide +kernel
theorem dX3_follows_4 : decode cX3_follows 4 = .ok (.iload_n 2, 1) := by decide +kernel
theorem dX3_follows_5 : decode cX3_follows 5 = .ok (.invokestatic 56, 3) := by decide +kernel
theorem dX3_follows_8 : decode cX3_follows 8 = .ok (.iconst 0, 1) := by decide +kernel
theorem dX3_follows_9 : decode cX3_follows 9 = .ok (.istore_n 3, 1) := by decide +kernel
theorem dX3_follows_10 : decode cX3_follows 10 = .ok (.iconst 0, 1) := by decide +kernel
theorem dX3_follows_11 : decode cX3_follows 11 = .ok (.istore 4, 2) := by decide +kernel
theorem dX3_follows_13 : decode cX3_follows 13 = .ok (.iload 4, 2) := by decide +kernel
theorem dX3_follows_15 : decode cX3_follows 15 = .ok (.aload_n 0, 1) := by decide +kernel
theorem dX3_follows_16 : decode cX3_follows 16 = .ok (.getfield 26, 3) := by decide +kernel
theorem dX3_follows_19 : decode cX3_follows 19 = .ok (.if_icmp .ge 28, 3) := by decide +kernel
theorem dX3_follows_22 : decode cX3_follows 22 = .ok (.iload_n 3, 1) := by decide +kernel
theorem dX3_follows_23 : decode cX3_follows 23 = .ok (.aload_n 0, 1) := by decide +kernel
theorem dX3_follows_24 : decode cX3_follows 24 = .ok (.getfield 23, 3) := by decide +kernel
theorem dX3_follows_27 : decode cX3_follows 27 = .ok (.iload 4, 2) := by decide +kernel
theorem dX3_follows_29 : decode cX3_follows 29 = .ok (.iaload, 1) := by decide +kernel
theorem dX3_follows_30 : decode cX3_follows 30 = .ok (.aload_n 0, 1) := by decide +kernel
theorem dX3_follows_31 : decode cX3_follows 31 = .ok (.iload 4, 2) := by decide +kernel
theorem dX3_follows_33 : decode cX3_follows 33 = .ok (.iload_n 1, 1) := by decide +kernel
theorem dX3_follows_34 : decode cX3_follows 34 = .ok (.iload_n 2, 1) := by decide +kernel
theorem dX3_follows_35 : decode cX3_follows 35 = .ok (.invokevirtual 89, 3) := by decide +kernel
theorem dX3_follows_38 : decode cX3_follows 38 = .ok (.imul, 1) := by decide +kernel
theorem dX3_follows_39 : decode cX3_follows 39 = .ok (.iadd, 1) := by decide +kernel
theorem dX3_follows_40 : decode cX3_follows 40 = .ok (.istore_n 3, 1) := by decide +kernel
theorem dX3_follows_41 : decode cX3_follows 41 = .ok (.iinc 4 1, 3) := by decide +kernel
theorem dX3_follows_44 : decode cX3_follows 44 = .ok (.goto (-31), 3) := by decide +kernel
theorem dX3_follows_47 : decode cX3_follows 47 = .ok (.iload_n 3, 1) := by decide +kernel
theorem dX3_follows_48 : decode cX3_follows 48 = .ok (.ireturn, 1) := by decide +kernel
theorem dX3_edges_0 : decode cX3_edges 0 = .ok (.aload_n 0, 1) := by decide +kernel
theorem dX3_edges_1 : decode cX3_edges 1 = .ok (.invokevirtual 82, 3) := by decide +kernel
theorem dX3_edges_4 : decode cX3_edges 4 = .ok (.astore_n 2, 1) := by decide +kernel
theorem dX3_edges_5 : decode cX3_edges 5 = .ok (.iload_n 1, 1) := by decide +kernel
theorem dX3_edges_6 : decode cX3_edges 6 = .ok (.ifCond .eq 10, 3) := by decide +kernel
theorem dX3_edges_9 : decode cX3_edges 9 = .ok (.aload_n 2, 1) := by decide +kernel
theorem dX3_edges_10 : decode cX3_edges 10 = .ok (.getfield 93, 3) := by decide +kernel
theorem dX3_edges_13 : decode cX3_edges 13 = .ok (.goto 7, 3) := by decide +kernel
theorem dX3_edges_16 : decode cX3_edges 16 = .ok (.aload_n 2, 1) := by decide +kernel
theorem dX3_edges_17 : decode cX3_edges 17 = .ok (.getfield 96, 3) := by decide +kernel
theorem dX3_edges_20 : decode cX3_edges 20 = .ok (.ireturn, 1) := by decide +kernel
theorem dX3_relation_0 : decode cX3_relation 0 = .ok (.iload_n 1, 1) := by decide +kernel
theorem dX3_relation_1 : decode cX3_relation 1 = .ok (.invokestatic 56, 3) := by decide +kernel
theorem dX3_relation_4 : decode cX3_relation 4 = .ok (.iload_n 2, 1) := by decide +kernel
theorem dX3_relation_5 : decode cX3_relation 5 = .ok (.invokestatic 56, 3) := by decide +kernel
theorem dX3_relation_8 : decode cX3_relation 8 = .ok (.aload_n 0, 1) := by decide +kernel
theorem dX3_relation_9 : decode cX3_relation 9 = .ok (.invokevirtual 82, 3) := by decide +kernel
theorem dX3_relation_12 : decode cX3_relation 12 = .ok (.astore_n 3, 1) := by decide +kernel
theorem dX3_relation_13 : decode cX3_relation 13 = .ok (.aload_n 3, 1) := by decide +kernel
theorem dX3_relation_14 : decode cX3_relation 14 = .ok (.getfield 99, 3) := by decide +kernel
theorem dX3_relation_17 : decode cX3_relation 17 = .ok (.iload_n 1, 1) := by decide +kernel
theorem dX3_relation_18 : decode cX3_relation 18 = .ok (.iaload, 1) := by decide +kernel
theorem dX3_relation_19 : decode cX3_relation 19 = .ok (.iload_n 2, 1) := by decide +kernel
theorem dX3_relation_20 : decode cX3_relation 20 = .ok (.invokestatic 102, 3) := by decide +kernel
theorem dX3_relation_23 : decode cX3_relation 23 = .ok (.ifCond .eq 7, 3) := by decide +kernel
theorem dX3_relation_26 : decode cX3_relation 26 = .ok (.iconst 1, 1) := by decide +kernel
theorem dX3_relation_27 : decode cX3_relation 27 = .ok (.goto 4, 3) := by decide +kernel
theorem dX3_relation_30 : decode cX3_relation 30 = .ok (.iconst 0, 1) := by decide +kernel
theorem dX3_relation_31 : decode cX3_relation 31 = .ok (.istore 4, 2) := by decide +kernel
theorem dX3_relation_33 : decode cX3_relation 33 = .ok (.aload_n 3, 1) := by decide +kernel
theorem dX3_relation_34 : decode cX3_relation 34 = .ok (.getfield 99, 3) := by decide +kernel
theorem dX3_relation_37 : decode cX3_relation 37 = .ok (.iload_n 2, 1) := by decide +kernel
theorem dX3_relation_38 : decode cX3_relation 38 = .ok (.iaload, 1) := by decide +kernel
theorem dX3_relation_39 : decode cX3_relation 39 = .ok (.iload_n 1, 1) := by decide +kernel
theorem dX3_relation_40 : decode cX3_relation 40 = .ok (.invokestatic 102, 3) := by decide +kernel
theorem dX3_relation_43 : decode cX3_relation 43 = .ok (.ifCond .eq 7, 3) := by decide +kernel
theorem dX3_relation_46 : decode cX3_relation 46 = .ok (.iconst 2, 1) := by decide +kernel
theorem dX3_relation_47 : decode cX3_relation 47 = .ok (.goto 4, 3) := by decide +kernel
theorem dX3_relation_50 : decode cX3_relation 50 = .ok (.iconst 0, 1) := by decide +kernel
theorem dX3_relation_51 : decode cX3_relation 51 = .ok (.istore 5, 2) := by decide +kernel
theorem dX3_relation_53 : decode cX3_relation 53 = .ok (.iload 4, 2) := by decide +kernel
theorem dX3_relation_55 : decode cX3_relation 55 = .ok (.iload 5, 2) := by decide +kernel
theorem dX3_relation_57 : decode cX3_relation 57 = .ok (.iadd, 1) := by decide +kernel
theorem dX3_relation_58 : decode cX3_relation 58 = .ok (.ireturn, 1) := by decide +kernel
theorem dX3_leads_0 : decode cX3_leads 0 = .ok (.iload_n 1, 1) := by decide +kernel
theorem dX3_leads_1 : decode cX3_leads 1 = .ok (.invokestatic 56, 3) := by decide +kernel
theorem dX3_leads_4 : decode cX3_leads 4 = .ok (.iload_n 2, 1) := by decide +kernel
theorem dX3_leads_5 : decode cX3_leads 5 = .ok (.invokestatic 56, 3) := by decide +kernel
theorem dX3_leads_8 : decode cX3_leads 8 = .ok (.aload_n 0, 1) := by decide +kernel
theorem dX3_leads_9 : decode cX3_leads 9 = .ok (.invokevirtual 82, 3) := by decide +kernel
theorem dX3_leads_12 : decode cX3_leads 12 = .ok (.astore_n 3, 1) := by decide +kernel
theorem dX3_leads_13 : decode cX3_leads 13 = .ok (.aload_n 3, 1) := by decide +kernel
theorem dX3_leads_14 : decode cX3_leads 14 = .ok (.invokevirtual 106, 3) := by decide +kernel
theorem dX3_leads_17 : decode cX3_leads 17 = .ok (.aload_n 3, 1) := by decide +kernel
theorem dX3_leads_18 : decode cX3_leads 18 = .ok (.getfield 109, 3) := by decide +kernel
theorem dX3_leads_21 : decode cX3_leads 21 = .ok (.iload_n 1, 1) := by decide +kernel
theorem dX3_leads_22 : decode cX3_leads 22 = .ok (.iaload, 1) := by decide +kernel
theorem dX3_leads_23 : decode cX3_leads 23 = .ok (.iload_n 2, 1) := by decide +kernel
theorem dX3_leads_24 : decode cX3_leads 24 = .ok (.invokestatic 102, 3) := by decide +kernel
theorem dX3_leads_27 : decode cX3_leads 27 = .ok (.ireturn, 1) := by decide +kernel
theorem dX3_variants_0 : decode cX3_variants 0 = .ok (.iconst 0, 1) := by decide +kernel
theorem dX3_variants_1 : decode cX3_variants 1 = .ok (.istore_n 1, 1) := by decide +kernel
theorem dX3_variants_2 : decode cX3_variants 2 = .ok (.iconst 0, 1) := by decide +kernel
theorem dX3_variants_3 : decode cX3_variants 3 = .ok (.istore_n 2, 1) := by decide +kernel
theorem dX3_variants_4 : decode cX3_variants 4 = .ok (.iload_n 2, 1) := by decide +kernel
theorem dX3_variants_5 : decode cX3_variants 5 = .ok (.aload_n 0, 1) := by decide +kernel
theorem dX3_variants_6 : decode cX3_variants 6 = .ok (.getfield 26, 3) := by decide +kernel
theorem dX3_variants_9 : decode cX3_variants 9 = .ok (.if_icmp .ge 29, 3) := by decide +kernel
theorem dX3_variants_12 : decode cX3_variants 12 = .ok (.aload_n 0, 1) := by decide +kernel
theorem dX3_variants_13 : decode cX3_variants 13 = .ok (.getfield 23, 3) := by decide +kernel
theorem dX3_variants_16 : decode cX3_variants 16 = .ok (.iload_n 2, 1) := by decide +kernel
theorem dX3_variants_17 : decode cX3_variants 17 = .ok (.iaload, 1) := by decide +kernel
theorem dX3_variants_18 : decode cX3_variants 18 = .ok (.ifCond .le 14, 3) := by decide +kernel
theorem dX3_variants_21 : decode cX3_variants 21 = .ok (.aload_n 0, 1) := by decide +kernel
theorem dX3_variants_22 : decode cX3_variants 22 = .ok (.iload_n 2, 1) := by decide +kernel
theorem dX3_variants_23 : decode cX3_variants 23 = .ok (.invokevirtual 112, 3) := by decide +kernel
theorem dX3_variants_26 : decode cX3_variants 26 = .ok (.ifCond .ne 6, 3) := by decide +kernel
theorem dX3_variants_29 : decode cX3_variants 29 = .ok (.iinc 1 1, 3) := by decide +kernel
theorem dX3_variants_32 : decode cX3_variants 32 = .ok (.iinc 2 1, 3) := by decide +kernel
theorem dX3_variants_35 : decode cX3_variants 35 = .ok (.goto (-31), 3) := by decide +kernel
theorem dX3_variants_38 : decode cX3_variants 38 = .ok (.iload_n 1, 1) := by decide +kernel
theorem dX3_variants_39 : decode cX3_variants 39 = .ok (.ireturn, 1) := by decide +kernel
theorem dX3_mine_0 : decode cX3_mine 0 = .ok (.aload_n 0, 1) := by decide +kernel
theorem dX3_mine_1 : decode cX3_mine 1 = .ok (.getfield 51, 3) := by decide +kernel
theorem dX3_mine_4 : decode cX3_mine 4 = .ok (.ifCond .ne 34, 3) := by decide +kernel
theorem dX3_mine_7 : decode cX3_mine 7 = .ok (.aload_n 0, 1) := by decide +kernel
theorem dX3_mine_8 : decode cX3_mine 8 = .ok (.invokevirtual 82, 3) := by decide +kernel
theorem dX3_mine_11 : decode cX3_mine 11 = .ok (.pop, 1) := by decide +kernel
theorem dX3_mine_12 : decode cX3_mine 12 = .ok (.aload_n 0, 1) := by decide +kernel
theorem dX3_mine_13 : decode cX3_mine 13 = .ok (.getfield 38, 3) := by decide +kernel
theorem dX3_mine_16 : decode cX3_mine 16 = .ok (.iconst 0, 1) := by decide +kernel
theorem dX3_mine_17 : decode cX3_mine 17 = .ok (.putfield 116, 3) := by decide +kernel
theorem dX3_mine_20 : decode cX3_mine 20 = .ok (.aload_n 0, 1) := by decide +kernel
theorem dX3_mine_21 : decode cX3_mine 21 = .ok (.getfield 31, 3) := by decide +kernel
theorem dX3_mine_24 : decode cX3_mine 24 = .ok (.aload_n 0, 1) := by decide +kernel
theorem dX3_mine_25 : decode cX3_mine 25 = .ok (.getfield 38, 3) := by decide +kernel
theorem dX3_mine_28 : decode cX3_mine 28 = .ok (.iconst 0, 1) := by decide +kernel
theorem dX3_mine_29 : decode cX3_mine 29 = .ok (.iconst (-1), 1) := by decide +kernel
theorem dX3_mine_30 : decode cX3_mine 30 = .ok (.invokestatic 119, 3) := by decide +kernel
theorem dX3_mine_33 : decode cX3_mine 33 = .ok (.aload_n 0, 1) := by decide +kernel
theorem dX3_mine_34 : decode cX3_mine 34 = .ok (.iconst 1, 1) := by decide +kernel
theorem dX3_mine_35 : decode cX3_mine 35 = .ok (.putfield 51, 3) := by decide +kernel
theorem dX3_mine_38 : decode cX3_mine 38 = .ok (.aload_n 0, 1) := by decide +kernel
theorem dX3_mine_39 : decode cX3_mine 39 = .ok (.getfield 38, 3) := by decide +kernel
theorem dX3_mine_42 : decode cX3_mine 42 = .ok (.getfield 116, 3) := by decide +kernel
theorem dX3_mine_45 : decode cX3_mine 45 = .ok (.ireturn, 1) := by decide +kernel
theorem dX3_kind_0 : decode cX3_kind 0 = .ok (.aload_n 0, 1) := by decide +kernel
theorem dX3_kind_1 : decode cX3_kind 1 = .ok (.iload_n 1, 1) := by decide +kernel
theorem dX3_kind_2 : decode cX3_kind 2 = .ok (.invokevirtual 123, 3) := by decide +kernel
theorem dX3_kind_5 : decode cX3_kind 5 = .ok (.aload_n 0, 1) := by decide +kernel
theorem dX3_kind_6 : decode cX3_kind 6 = .ok (.getfield 38, 3) := by decide +kernel
theorem dX3_kind_9 : decode cX3_kind 9 = .ok (.getfield 126, 3) := by decide +kernel
theorem dX3_kind_12 : decode cX3_kind 12 = .ok (.iload_n 1, 1) := by decide +kernel
theorem dX3_kind_13 : decode cX3_kind 13 = .ok (.iaload, 1) := by decide +kernel
theorem dX3_kind_14 : decode cX3_kind 14 = .ok (.ireturn, 1) := by decide +kernel
theorem dX3_labelsOf_0 : decode cX3_labelsOf 0 = .ok (.aload_n 0, 1) := by decide +kernel
theorem dX3_labelsOf_1 : decode cX3_labelsOf 1 = .ok (.iload_n 1, 1) := by decide +kernel
theorem dX3_labelsOf_2 : decode cX3_labelsOf 2 = .ok (.invokevirtual 123, 3) := by decide +kernel
theorem dX3_labelsOf_5 : decode cX3_labelsOf 5 = .ok (.aload_n 0, 1) := by decide +kernel
theorem dX3_labelsOf_6 : decode cX3_labelsOf 6 = .ok (.getfield 38, 3) := by decide +kernel
theorem dX3_labelsOf_9 : decode cX3_labelsOf 9 = .ok (.getfield 129, 3) := by decide +kernel
theorem dX3_labelsOf_12 : decode cX3_labelsOf 12 = .ok (.iload_n 1, 1) := by decide +kernel
theorem dX3_labelsOf_13 : decode cX3_labelsOf 13 = .ok (.iaload, 1) := by decide +kernel
theorem dX3_labelsOf_14 : decode cX3_labelsOf 14 = .ok (.ireturn, 1) := by decide +kernel
theorem dX3_parent_0 : decode cX3_parent 0 = .ok (.aload_n 0, 1) := by decide +kernel
theorem dX3_parent_1 : decode cX3_parent 1 = .ok (.iload_n 1, 1) := by decide +kernel
theorem dX3_parent_2 : decode cX3_parent 2 = .ok (.invokevirtual 123, 3) := by decide +kernel
theorem dX3_parent_5 : decode cX3_parent 5 = .ok (.aload_n 0, 1) := by decide +kernel
theorem dX3_parent_6 : decode cX3_parent 6 = .ok (.getfield 38, 3) := by decide +kernel
theorem dX3_parent_9 : decode cX3_parent 9 = .ok (.getfield 132, 3) := by decide +kernel
theorem dX3_parent_12 : decode cX3_parent 12 = .ok (.iload_n 1, 1) := by decide +kernel
theorem dX3_parent_13 : decode cX3_parent 13 = .ok (.iaload, 1) := by decide +kernel
theorem dX3_parent_14 : decode cX3_parent 14 = .ok (.ireturn, 1) := by decide +kernel
theorem dX3_children_0 : decode cX3_children 0 = .ok (.aload_n 0, 1) := by decide +kernel
theorem dX3_children_1 : decode cX3_children 1 = .ok (.iload_n 1, 1) := by decide +kernel
theorem dX3_children_2 : decode cX3_children 2 = .ok (.invokevirtual 123, 3) := by decide +kernel
theorem dX3_children_5 : decode cX3_children 5 = .ok (.aload_n 0, 1) := by decide +kernel
theorem dX3_children_6 : decode cX3_children 6 = .ok (.getfield 38, 3) := by decide +kernel
theorem dX3_children_9 : decode cX3_children 9 = .ok (.getfield 135, 3) := by decide +kernel
theorem dX3_children_12 : decode cX3_children 12 = .ok (.iload_n 1, 1) := by decide +kernel
theorem dX3_children_13 : decode cX3_children 13 = .ok (.iaload, 1) := by decide +kernel
theorem dX3_children_14 : decode cX3_children 14 = .ok (.ireturn, 1) := by decide +kernel
theorem dX3_child_0 : decode cX3_child 0 = .ok (.aload_n 0, 1) := by decide +kernel
theorem dX3_child_1 : decode cX3_child 1 = .ok (.iload_n 1, 1) := by decide +kernel
theorem dX3_child_2 : decode cX3_child 2 = .ok (.invokevirtual 123, 3) := by decide +kernel
theorem dX3_child_5 : decode cX3_child 5 = .ok (.iload_n 2, 1) := by decide +kernel
theorem dX3_child_6 : decode cX3_child 6 = .ok (.ifCond .lt 16, 3) := by decide +kernel
theorem dX3_child_9 : decode cX3_child 9 = .ok (.iload_n 2, 1) := by decide +kernel
theorem dX3_child_10 : decode cX3_child 10 = .ok (.aload_n 0, 1) := by decide +kernel
theorem dX3_child_11 : decode cX3_child 11 = .ok (.getfield 38, 3) := by decide +kernel
theorem dX3_child_14 : decode cX3_child 14 = .ok (.getfield 135, 3) := by decide +kernel
theorem dX3_child_17 : decode cX3_child 17 = .ok (.iload_n 1, 1) := by decide +kernel
theorem dX3_child_18 : decode cX3_child 18 = .ok (.iaload, 1) := by decide +kernel
theorem dX3_child_19 : decode cX3_child 19 = .ok (.if_icmp .lt 13, 3) := by decide +kernel
theorem dX3_child_22 : decode cX3_child 22 = .ok (.new 77, 3) := by decide +kernel
theorem dX3_child_25 : decode cX3_child 25 = .ok (.dup, 1) := by decide +kernel
theorem dX3_child_26 : decode cX3_child 26 = .ok (.ldc 138, 2) := by decide +kernel
theorem dX3_child_28 : decode cX3_child 28 = .ok (.invokespecial 81, 3) := by decide +kernel
theorem dX3_child_31 : decode cX3_child 31 = .ok (.athrow, 1) := by decide +kernel
theorem dX3_child_32 : decode cX3_child 32 = .ok (.aload_n 0, 1) := by decide +kernel
theorem dX3_child_33 : decode cX3_child 33 = .ok (.getfield 38, 3) := by decide +kernel
theorem dX3_child_36 : decode cX3_child 36 = .ok (.iload_n 1, 1) := by decide +kernel
theorem dX3_child_37 : decode cX3_child 37 = .ok (.iload_n 2, 1) := by decide +kernel
theorem dX3_child_38 : decode cX3_child 38 = .ok (.invokevirtual 140, 3) := by decide +kernel
theorem dX3_child_41 : decode cX3_child 41 = .ok (.ireturn, 1) := by decide +kernel
theorem dX3_shortest_0 : decode cX3_shortest 0 = .ok (.aload_n 0, 1) := by decide +kernel
theorem dX3_shortest_1 : decode cX3_shortest 1 = .ok (.iload_n 1, 1) := by decide +kernel
theorem dX3_shortest_2 : decode cX3_shortest 2 = .ok (.invokevirtual 123, 3) := by decide +kernel
theorem dX3_shortest_5 : decode cX3_shortest 5 = .ok (.aload_n 0, 1) := by decide +kernel
theorem dX3_shortest_6 : decode cX3_shortest 6 = .ok (.getfield 38, 3) := by decide +kernel
theorem dX3_shortest_9 : decode cX3_shortest 9 = .ok (.iload_n 1, 1) := by decide +kernel
theorem dX3_shortest_10 : decode cX3_shortest 10 = .ok (.invokevirtual 144, 3) := by decide +kernel
theorem dX3_shortest_13 : decode cX3_shortest 13 = .ok (.ireturn, 1) := by decide +kernel
theorem dX3_height_0 : decode cX3_height 0 = .ok (.aload_n 0, 1) := by decide +kernel
theorem dX3_height_1 : decode cX3_height 1 = .ok (.invokevirtual 148, 3) := by decide +kernel
theorem dX3_height_4 : decode cX3_height 4 = .ok (.aload_n 0, 1) := by decide +kernel
theorem dX3_height_5 : decode cX3_height 5 = .ok (.getfield 38, 3) := by decide +kernel
theorem dX3_height_8 : decode cX3_height 8 = .ok (.invokevirtual 151, 3) := by decide +kernel
theorem dX3_height_11 : decode cX3_height 11 = .ok (.ireturn, 1) := by decide +kernel
theorem dX3_accepts_0 : decode cX3_accepts 0 = .ok (.aload_n 0, 1) := by decide +kernel
theorem dX3_accepts_1 : decode cX3_accepts 1 = .ok (.invokevirtual 148, 3) := by decide +kernel
theorem dX3_accepts_4 : decode cX3_accepts 4 = .ok (.aload_n 0, 1) := by decide +kernel
theorem dX3_accepts_5 : decode cX3_accepts 5 = .ok (.iload_n 1, 1) := by decide +kernel
theorem dX3_accepts_6 : decode cX3_accepts 6 = .ok (.invokevirtual 72, 3) := by decide +kernel
theorem dX3_accepts_9 : decode cX3_accepts 9 = .ok (.aload_n 0, 1) := by decide +kernel
theorem dX3_accepts_10 : decode cX3_accepts 10 = .ok (.getfield 47, 3) := by decide +kernel
theorem dX3_accepts_13 : decode cX3_accepts 13 = .ok (.aload_n 0, 1) := by decide +kernel
theorem dX3_accepts_14 : decode cX3_accepts 14 = .ok (.getfield 17, 3) := by decide +kernel
theorem dX3_accepts_17 : decode cX3_accepts 17 = .ok (.iload_n 1, 1) := by decide +kernel
theorem dX3_accepts_18 : decode cX3_accepts 18 = .ok (.bipush 12, 2) := by decide +kernel
theorem dX3_accepts_20 : decode cX3_accepts 20 = .ok (.imul, 1) := by decide +kernel
theorem dX3_accepts_21 : decode cX3_accepts 21 = .ok (.aload_n 0, 1) := by decide +kernel
theorem dX3_accepts_22 : decode cX3_accepts 22 = .ok (.getfield 20, 3) := by decide +kernel
theorem dX3_accepts_25 : decode cX3_accepts 25 = .ok (.iload_n 1, 1) := by decide +kernel
theorem dX3_accepts_26 : decode cX3_accepts 26 = .ok (.iaload, 1) := by decide +kernel
theorem dX3_accepts_27 : decode cX3_accepts 27 = .ok (.invokevirtual 155, 3) := by decide +kernel
theorem dX3_accepts_30 : decode cX3_accepts 30 = .ok (.ireturn, 1) := by decide +kernel
theorem dX3_acceptsBuffer_0 : decode cX3_acceptsBuffer 0 = .ok (.aload_n 0, 1) := by decide +kernel
theorem dX3_acceptsBuffer_1 : decode cX3_acceptsBuffer 1 = .ok (.invokevirtual 148, 3) := by decide +kernel
theorem dX3_acceptsBuffer_4 : decode cX3_acceptsBuffer 4 = .ok (.aload_n 0, 1) := by decide +kernel
theorem dX3_acceptsBuffer_5 : decode cX3_acceptsBuffer 5 = .ok (.getfield 47, 3) := by decide +kernel
theorem dX3_acceptsBuffer_8 : decode cX3_acceptsBuffer 8 = .ok (.aload_n 0, 1) := by decide +kernel
theorem dX3_acceptsBuffer_9 : decode cX3_acceptsBuffer 9 = .ok (.getfield 9, 3) := by decide +kernel
theorem dX3_acceptsBuffer_12 : decode cX3_acceptsBuffer 12 = .ok (.iconst 0, 1) := by decide +kernel
theorem dX3_acceptsBuffer_13 : decode cX3_acceptsBuffer 13 = .ok (.aload_n 0, 1) := by decide +kernel
theorem dX3_acceptsBuffer_14 : decode cX3_acceptsBuffer 14 = .ok (.getfield 13, 3) := by decide +kernel
theorem dX3_acceptsBuffer_17 : decode cX3_acceptsBuffer 17 = .ok (.invokevirtual 155, 3) := by decide +kernel
theorem dX3_acceptsBuffer_20 : decode cX3_acceptsBuffer 20 = .ok (.ireturn, 1) := by decide +kernel
theorem dX3_fitness_0 : decode cX3_fitness 0 = .ok (.aload_n 0, 1) := by decide +kernel
theorem dX3_fitness_1 : decode cX3_fitness 1 = .ok (.invokevirtual 148, 3) := by decide +kernel
theorem dX3_fitness_4 : decode cX3_fitness 4 = .ok (.aload_n 0, 1) := by decide +kernel
theorem dX3_fitness_5 : decode cX3_fitness 5 = .ok (.getfield 26, 3) := by decide +kernel
theorem dX3_fitness_8 : decode cX3_fitness 8 = .ok (.ifCond .ne 5, 3) := by decide +kernel
theorem dX3_fitness_11 : decode cX3_fitness 11 = .ok (.dconst 1, 1) := by decide +kernel
theorem dX3_fitness_12 : decode cX3_fitness 12 = .ok (.dreturn, 1) := by decide +kernel
theorem dX3_fitness_13 : decode cX3_fitness 13 = .ok (.iconst 0, 1) := by decide +kernel
theorem dX3_fitness_14 : decode cX3_fitness 14 = .ok (.istore_n 1, 1) := by decide +kernel
theorem dX3_fitness_15 : decode cX3_fitness 15 = .ok (.iconst 0, 1) := by decide +kernel
theorem dX3_fitness_16 : decode cX3_fitness 16 = .ok (.istore_n 2, 1) := by decide +kernel
theorem dX3_fitness_17 : decode cX3_fitness 17 = .ok (.iload_n 2, 1) := by decide +kernel
theorem dX3_fitness_18 : decode cX3_fitness 18 = .ok (.aload_n 0, 1) := by decide +kernel
theorem dX3_fitness_19 : decode cX3_fitness 19 = .ok (.getfield 26, 3) := by decide +kernel
theorem dX3_fitness_22 : decode cX3_fitness 22 = .ok (.if_icmp .ge 36, 3) := by decide +kernel
theorem dX3_fitness_25 : decode cX3_fitness 25 = .ok (.aload_n 0, 1) := by decide +kernel
theorem dX3_fitness_26 : decode cX3_fitness 26 = .ok (.getfield 47, 3) := by decide +kernel
theorem dX3_fitness_29 : decode cX3_fitness 29 = .ok (.aload_n 0, 1) := by decide +kernel
theorem dX3_fitness_30 : decode cX3_fitness 30 = .ok (.getfield 17, 3) := by decide +kernel
theorem dX3_fitness_33 : decode cX3_fitness 33 = .ok (.iload_n 2, 1) := by decide +kernel
theorem dX3_fitness_34 : decode cX3_fitness 34 = .ok (.bipush 12, 2) := by decide +kernel
theorem dX3_fitness_36 : decode cX3_fitness 36 = .ok (.imul, 1) := by decide +kernel
theorem dX3_fitness_37 : decode cX3_fitness 37 = .ok (.aload_n 0, 1) := by decide +kernel
theorem dX3_fitness_38 : decode cX3_fitness 38 = .ok (.getfield 20, 3) := by decide +kernel
theorem dX3_fitness_41 : decode cX3_fitness 41 = .ok (.iload_n 2, 1) := by decide +kernel
theorem dX3_fitness_42 : decode cX3_fitness 42 = .ok (.iaload, 1) := by decide +kernel
theorem dX3_fitness_43 : decode cX3_fitness 43 = .ok (.invokevirtual 155, 3) := by decide +kernel
theorem dX3_fitness_46 : decode cX3_fitness 46 = .ok (.ifCond .eq 6, 3) := by decide +kernel
theorem dX3_fitness_49 : decode cX3_fitness 49 = .ok (.iinc 1 1, 3) := by decide +kernel
theorem dX3_fitness_52 : decode cX3_fitness 52 = .ok (.iinc 2 1, 3) := by decide +kernel
theorem dX3_fitness_55 : decode cX3_fitness 55 = .ok (.goto (-38), 3) := by decide +kernel
theorem dX3_fitness_58 : decode cX3_fitness 58 = .ok (.iload_n 1, 1) := by decide +kernel
theorem dX3_fitness_59 : decode cX3_fitness 59 = .ok (.i2d, 1) := by decide +kernel
theorem dX3_fitness_60 : decode cX3_fitness 60 = .ok (.aload_n 0, 1) := by decide +kernel
theorem dX3_fitness_61 : decode cX3_fitness 61 = .ok (.getfield 26, 3) := by decide +kernel
theorem dX3_fitness_64 : decode cX3_fitness 64 = .ok (.i2d, 1) := by decide +kernel
theorem dX3_fitness_65 : decode cX3_fitness 65 = .ok (.ddiv, 1) := by decide +kernel
theorem dX3_fitness_66 : decode cX3_fitness 66 = .ok (.dreturn, 1) := by decide +kernel
theorem dX3_words_0 : decode cX3_words 0 = .ok (.aload_n 0, 1) := by decide +kernel
theorem dX3_words_1 : decode cX3_words 1 = .ok (.invokevirtual 148, 3) := by decide +kernel
theorem dX3_words_4 : decode cX3_words 4 = .ok (.iload_n 1, 1) := by decide +kernel
theorem dX3_words_5 : decode cX3_words 5 = .ok (.ifCond .lt 8, 3) := by decide +kernel
theorem dX3_words_8 : decode cX3_words 8 = .ok (.iload_n 1, 1) := by decide +kernel
theorem dX3_words_9 : decode cX3_words 9 = .ok (.iconst 3, 1) := by decide +kernel
theorem dX3_words_10 : decode cX3_words 10 = .ok (.if_icmp .le 13, 3) := by decide +kernel
theorem dX3_words_13 : decode cX3_words 13 = .ok (.new 159, 3) := by decide +kernel
theorem dX3_words_16 : decode cX3_words 16 = .ok (.dup, 1) := by decide +kernel
theorem dX3_words_17 : decode cX3_words 17 = .ok (.ldc 161, 2) := by decide +kernel
theorem dX3_words_19 : decode cX3_words 19 = .ok (.invokespecial 163, 3) := by decide +kernel
theorem dX3_words_22 : decode cX3_words 22 = .ok (.athrow, 1) := by decide +kernel
theorem dX3_words_23 : decode cX3_words 23 = .ok (.aload_n 0, 1) := by decide +kernel
theorem dX3_words_24 : decode cX3_words 24 = .ok (.getfield 47, 3) := by decide +kernel
theorem dX3_words_27 : decode cX3_words 27 = .ok (.iload_n 1, 1) := by decide +kernel
theorem dX3_words_28 : decode cX3_words 28 = .ok (.invokevirtual 164, 3) := by decide +kernel
theorem dX3_words_31 : decode cX3_words 31 = .ok (.ireturn, 1) := by decide +kernel
theorem dX3_digest_0 : decode cX3_digest 0 = .ok (.ldc2_w 167, 3) := by decide +kernel
theorem dX3_digest_3 : decode cX3_digest 3 = .ok (.lstore_n 1, 1) := by decide +kernel
theorem dX3_digest_4 : decode cX3_digest 4 = .ok (.lload_n 1, 1) := by decide +kernel
theorem dX3_digest_5 : decode cX3_digest 5 = .ok (.aload_n 0, 1) := by decide +kernel
theorem dX3_digest_6 : decode cX3_digest 6 = .ok (.getfield 13, 3) := by decide +kernel
theorem dX3_digest_9 : decode cX3_digest 9 = .ok (.invokestatic 169, 3) := by decide +kernel
theorem dX3_digest_12 : decode cX3_digest 12 = .ok (.aload_n 0, 1) := by decide +kernel
theorem dX3_digest_13 : decode cX3_digest 13 = .ok (.getfield 9, 3) := by decide +kernel
theorem dX3_digest_16 : decode cX3_digest 16 = .ok (.iconst 0, 1) := by decide +kernel
theorem dX3_digest_17 : decode cX3_digest 17 = .ok (.aload_n 0, 1) := by decide +kernel
theorem dX3_digest_18 : decode cX3_digest 18 = .ok (.getfield 13, 3) := by decide +kernel
theorem dX3_digest_21 : decode cX3_digest 21 = .ok (.invokestatic 173, 3) := by decide +kernel
theorem dX3_digest_24 : decode cX3_digest 24 = .ok (.lstore_n 1, 1) := by decide +kernel
theorem dX3_digest_25 : decode cX3_digest 25 = .ok (.lload_n 1, 1) := by decide +kernel
theorem dX3_digest_26 : decode cX3_digest 26 = .ok (.aload_n 0, 1) := by decide +kernel
theorem dX3_digest_27 : decode cX3_digest 27 = .ok (.getfield 26, 3) := by decide +kernel
theorem dX3_digest_30 : decode cX3_digest 30 = .ok (.invokestatic 169, 3) := by decide +kernel
theorem dX3_digest_33 : decode cX3_digest 33 = .ok (.lstore_n 1, 1) := by decide +kernel
theorem dX3_digest_34 : decode cX3_digest 34 = .ok (.iconst 0, 1) := by decide +kernel
theorem dX3_digest_35 : decode cX3_digest 35 = .ok (.istore_n 3, 1) := by decide +kernel
theorem dX3_digest_36 : decode cX3_digest 36 = .ok (.iload_n 3, 1) := by decide +kernel
theorem dX3_digest_37 : decode cX3_digest 37 = .ok (.aload_n 0, 1) := by decide +kernel
theorem dX3_digest_38 : decode cX3_digest 38 = .ok (.getfield 26, 3) := by decide +kernel
theorem dX3_digest_41 : decode cX3_digest 41 = .ok (.if_icmp .ge 48, 3) := by decide +kernel
theorem dX3_digest_44 : decode cX3_digest 44 = .ok (.lload_n 1, 1) := by decide +kernel
theorem dX3_digest_45 : decode cX3_digest 45 = .ok (.aload_n 0, 1) := by decide +kernel
theorem dX3_digest_46 : decode cX3_digest 46 = .ok (.getfield 23, 3) := by decide +kernel
theorem dX3_digest_49 : decode cX3_digest 49 = .ok (.iload_n 3, 1) := by decide +kernel
theorem dX3_digest_50 : decode cX3_digest 50 = .ok (.iaload, 1) := by decide +kernel
theorem dX3_digest_51 : decode cX3_digest 51 = .ok (.invokestatic 169, 3) := by decide +kernel
theorem dX3_digest_54 : decode cX3_digest 54 = .ok (.aload_n 0, 1) := by decide +kernel
theorem dX3_digest_55 : decode cX3_digest 55 = .ok (.getfield 20, 3) := by decide +kernel
theorem dX3_digest_58 : decode cX3_digest 58 = .ok (.iload_n 3, 1) := by decide +kernel
theorem dX3_digest_59 : decode cX3_digest 59 = .ok (.iaload, 1) := by decide +kernel
theorem dX3_digest_60 : decode cX3_digest 60 = .ok (.invokestatic 169, 3) := by decide +kernel
theorem dX3_digest_63 : decode cX3_digest 63 = .ok (.lstore_n 1, 1) := by decide +kernel
theorem dX3_digest_64 : decode cX3_digest 64 = .ok (.lload_n 1, 1) := by decide +kernel
theorem dX3_digest_65 : decode cX3_digest 65 = .ok (.aload_n 0, 1) := by decide +kernel
theorem dX3_digest_66 : decode cX3_digest 66 = .ok (.getfield 17, 3) := by decide +kernel
theorem dX3_digest_69 : decode cX3_digest 69 = .ok (.iload_n 3, 1) := by decide +kernel
theorem dX3_digest_70 : decode cX3_digest 70 = .ok (.bipush 12, 2) := by decide +kernel
theorem dX3_digest_72 : decode cX3_digest 72 = .ok (.imul, 1) := by decide +kernel
theorem dX3_digest_73 : decode cX3_digest 73 = .ok (.aload_n 0, 1) := by decide +kernel
theorem dX3_digest_74 : decode cX3_digest 74 = .ok (.getfield 20, 3) := by decide +kernel
theorem dX3_digest_77 : decode cX3_digest 77 = .ok (.iload_n 3, 1) := by decide +kernel
theorem dX3_digest_78 : decode cX3_digest 78 = .ok (.iaload, 1) := by decide +kernel
theorem dX3_digest_79 : decode cX3_digest 79 = .ok (.invokestatic 173, 3) := by decide +kernel
theorem dX3_digest_82 : decode cX3_digest 82 = .ok (.lstore_n 1, 1) := by decide +kernel
theorem dX3_digest_83 : decode cX3_digest 83 = .ok (.iinc 3 1, 3) := by decide +kernel
theorem dX3_digest_86 : decode cX3_digest 86 = .ok (.goto (-50), 3) := by decide +kernel
theorem dX3_digest_89 : decode cX3_digest 89 = .ok (.aload_n 0, 1) := by decide +kernel
theorem dX3_digest_90 : decode cX3_digest 90 = .ok (.getfield 51, 3) := by decide +kernel
theorem dX3_digest_93 : decode cX3_digest 93 = .ok (.ifCond .eq 72, 3) := by decide +kernel
theorem dX3_digest_96 : decode cX3_digest 96 = .ok (.lload_n 1, 1) := by decide +kernel
theorem dX3_digest_97 : decode cX3_digest 97 = .ok (.aload_n 0, 1) := by decide +kernel
theorem dX3_digest_98 : decode cX3_digest 98 = .ok (.getfield 38, 3) := by decide +kernel
theorem dX3_digest_101 : decode cX3_digest 101 = .ok (.getfield 116, 3) := by decide +kernel
theorem dX3_digest_104 : decode cX3_digest 104 = .ok (.invokestatic 169, 3) := by decide +kernel
theorem dX3_digest_107 : decode cX3_digest 107 = .ok (.lstore_n 1, 1) := by decide +kernel
theorem dX3_digest_108 : decode cX3_digest 108 = .ok (.iconst 0, 1) := by decide +kernel
theorem dX3_digest_109 : decode cX3_digest 109 = .ok (.istore_n 3, 1) := by decide +kernel
theorem dX3_digest_110 : decode cX3_digest 110 = .ok (.iload_n 3, 1) := by decide +kernel
theorem dX3_digest_111 : decode cX3_digest 111 = .ok (.aload_n 0, 1) := by decide +kernel
theorem dX3_digest_112 : decode cX3_digest 112 = .ok (.getfield 38, 3) := by decide +kernel
theorem dX3_digest_115 : decode cX3_digest 115 = .ok (.getfield 116, 3) := by decide +kernel
theorem dX3_digest_118 : decode cX3_digest 118 = .ok (.if_icmp .ge 47, 3) := by decide +kernel
theorem dX3_digest_121 : decode cX3_digest 121 = .ok (.lload_n 1, 1) := by decide +kernel
theorem dX3_digest_122 : decode cX3_digest 122 = .ok (.aload_n 0, 1) := by decide +kernel
theorem dX3_digest_123 : decode cX3_digest 123 = .ok (.getfield 38, 3) := by decide +kernel
theorem dX3_digest_126 : decode cX3_digest 126 = .ok (.getfield 126, 3) := by decide +kernel
theorem dX3_digest_129 : decode cX3_digest 129 = .ok (.iload_n 3, 1) := by decide +kernel
theorem dX3_digest_130 : decode cX3_digest 130 = .ok (.iaload, 1) := by decide +kernel
theorem dX3_digest_131 : decode cX3_digest 131 = .ok (.invokestatic 169, 3) := by decide +kernel
theorem dX3_digest_134 : decode cX3_digest 134 = .ok (.aload_n 0, 1) := by decide +kernel
theorem dX3_digest_135 : decode cX3_digest 135 = .ok (.getfield 38, 3) := by decide +kernel
theorem dX3_digest_138 : decode cX3_digest 138 = .ok (.getfield 129, 3) := by decide +kernel
theorem dX3_digest_141 : decode cX3_digest 141 = .ok (.iload_n 3, 1) := by decide +kernel
theorem dX3_digest_142 : decode cX3_digest 142 = .ok (.iaload, 1) := by decide +kernel
theorem dX3_digest_143 : decode cX3_digest 143 = .ok (.invokestatic 169, 3) := by decide +kernel
theorem dX3_digest_146 : decode cX3_digest 146 = .ok (.aload_n 0, 1) := by decide +kernel
theorem dX3_digest_147 : decode cX3_digest 147 = .ok (.getfield 38, 3) := by decide +kernel
theorem dX3_digest_150 : decode cX3_digest 150 = .ok (.getfield 135, 3) := by decide +kernel
theorem dX3_digest_153 : decode cX3_digest 153 = .ok (.iload_n 3, 1) := by decide +kernel
theorem dX3_digest_154 : decode cX3_digest 154 = .ok (.iaload, 1) := by decide +kernel
theorem dX3_digest_155 : decode cX3_digest 155 = .ok (.invokestatic 169, 3) := by decide +kernel
theorem dX3_digest_158 : decode cX3_digest 158 = .ok (.lstore_n 1, 1) := by decide +kernel
theorem dX3_digest_159 : decode cX3_digest 159 = .ok (.iinc 3 1, 3) := by decide +kernel
theorem dX3_digest_162 : decode cX3_digest 162 = .ok (.goto (-52), 3) := by decide +kernel
theorem dX3_digest_165 : decode cX3_digest 165 = .ok (.lload_n 1, 1) := by decide +kernel
theorem dX3_digest_166 : decode cX3_digest 166 = .ok (.lreturn, 1) := by decide +kernel
theorem dX3_checkLabel_0 : decode cX3_checkLabel 0 = .ok (.iload_n 0, 1) := by decide +kernel
theorem dX3_checkLabel_1 : decode cX3_checkLabel 1 = .ok (.ifCond .lt 9, 3) := by decide +kernel
theorem dX3_checkLabel_4 : decode cX3_checkLabel 4 = .ok (.iload_n 0, 1) := by decide +kernel
theorem dX3_checkLabel_5 : decode cX3_checkLabel 5 = .ok (.bipush 8, 2) := by decide +kernel
theorem dX3_checkLabel_7 : decode cX3_checkLabel 7 = .ok (.if_icmp .lt 13, 3) := by decide +kernel
theorem dX3_checkLabel_10 : decode cX3_checkLabel 10 = .ok (.new 77, 3) := by decide +kernel
theorem dX3_checkLabel_13 : decode cX3_checkLabel 13 = .ok (.dup, 1) := by decide +kernel
theorem dX3_checkLabel_14 : decode cX3_checkLabel 14 = .ok (.ldc 177, 2) := by decide +kernel
theorem dX3_checkLabel_16 : decode cX3_checkLabel 16 = .ok (.invokespecial 81, 3) := by decide +kernel
theorem dX3_checkLabel_19 : decode cX3_checkLabel 19 = .ok (.athrow, 1) := by decide +kernel
theorem dX3_checkLabel_20 : decode cX3_checkLabel 20 = .ok (.return_, 1) := by decide +kernel
theorem dX3_checkTimes_0 : decode cX3_checkTimes 0 = .ok (.iload_n 0, 1) := by decide +kernel
theorem dX3_checkTimes_1 : decode cX3_checkTimes 1 = .ok (.ifCond .lt 9, 3) := by decide +kernel
theorem dX3_checkTimes_4 : decode cX3_checkTimes 4 = .ok (.iload_n 0, 1) := by decide +kernel
theorem dX3_checkTimes_5 : decode cX3_checkTimes 5 = .ok (.bipush 99, 2) := by decide +kernel
theorem dX3_checkTimes_7 : decode cX3_checkTimes 7 = .ok (.if_icmp .le 13, 3) := by decide +kernel
theorem dX3_checkTimes_10 : decode cX3_checkTimes 10 = .ok (.new 159, 3) := by decide +kernel
theorem dX3_checkTimes_13 : decode cX3_checkTimes 13 = .ok (.dup, 1) := by decide +kernel
theorem dX3_checkTimes_14 : decode cX3_checkTimes 14 = .ok (.ldc 179, 2) := by decide +kernel
theorem dX3_checkTimes_16 : decode cX3_checkTimes 16 = .ok (.invokespecial 163, 3) := by decide +kernel
theorem dX3_checkTimes_19 : decode cX3_checkTimes 19 = .ok (.athrow, 1) := by decide +kernel
theorem dX3_checkTimes_20 : decode cX3_checkTimes 20 = .ok (.return_, 1) := by decide +kernel
theorem dX3_checkTrace_0 : decode cX3_checkTrace 0 = .ok (.iload_n 1, 1) := by decide +kernel
theorem dX3_checkTrace_1 : decode cX3_checkTrace 1 = .ok (.ifCond .lt 11, 3) := by decide +kernel
theorem dX3_checkTrace_4 : decode cX3_checkTrace 4 = .ok (.iload_n 1, 1) := by decide +kernel
theorem dX3_checkTrace_5 : decode cX3_checkTrace 5 = .ok (.aload_n 0, 1) := by decide +kernel
theorem dX3_checkTrace_6 : decode cX3_checkTrace 6 = .ok (.getfield 26, 3) := by decide +kernel
theorem dX3_checkTrace_9 : decode cX3_checkTrace 9 = .ok (.if_icmp .lt 13, 3) := by decide +kernel
theorem dX3_checkTrace_12 : decode cX3_checkTrace 12 = .ok (.new 77, 3) := by decide +kernel
theorem dX3_checkTrace_15 : decode cX3_checkTrace 15 = .ok (.dup, 1) := by decide +kernel
theorem dX3_checkTrace_16 : decode cX3_checkTrace 16 = .ok (.ldc 181, 2) := by decide +kernel
theorem dX3_checkTrace_18 : decode cX3_checkTrace 18 = .ok (.invokespecial 81, 3) := by decide +kernel
theorem dX3_checkTrace_21 : decode cX3_checkTrace 21 = .ok (.athrow, 1) := by decide +kernel
theorem dX3_checkTrace_22 : decode cX3_checkTrace 22 = .ok (.return_, 1) := by decide +kernel
theorem dX3_checkMined_0 : decode cX3_checkMined 0 = .ok (.aload_n 0, 1) := by decide +kernel
theorem dX3_checkMined_1 : decode cX3_checkMined 1 = .ok (.getfield 51, 3) := by decide +kernel
theorem dX3_checkMined_4 : decode cX3_checkMined 4 = .ok (.ifCond .ne 13, 3) := by decide +kernel
theorem dX3_checkMined_7 : decode cX3_checkMined 7 = .ok (.new 60, 3) := by decide +kernel
theorem dX3_checkMined_10 : decode cX3_checkMined 10 = .ok (.dup, 1) := by decide +kernel
theorem dX3_checkMined_11 : decode cX3_checkMined 11 = .ok (.ldc 183, 2) := by decide +kernel
theorem dX3_checkMined_13 : decode cX3_checkMined 13 = .ok (.invokespecial 64, 3) := by decide +kernel
theorem dX3_checkMined_16 : decode cX3_checkMined 16 = .ok (.athrow, 1) := by decide +kernel
theorem dX3_checkMined_17 : decode cX3_checkMined 17 = .ok (.return_, 1) := by decide +kernel
theorem dX3_checkNode_0 : decode cX3_checkNode 0 = .ok (.aload_n 0, 1) := by decide +kernel
theorem dX3_checkNode_1 : decode cX3_checkNode 1 = .ok (.invokevirtual 148, 3) := by decide +kernel
theorem dX3_checkNode_4 : decode cX3_checkNode 4 = .ok (.iload_n 1, 1) := by decide +kernel
theorem dX3_checkNode_5 : decode cX3_checkNode 5 = .ok (.ifCond .lt 14, 3) := by decide +kernel
theorem dX3_checkNode_8 : decode cX3_checkNode 8 = .ok (.iload_n 1, 1) := by decide +kernel
theorem dX3_checkNode_9 : decode cX3_checkNode 9 = .ok (.aload_n 0, 1) := by decide +kernel
theorem dX3_checkNode_10 : decode cX3_checkNode 10 = .ok (.getfield 38, 3) := by decide +kernel
theorem dX3_checkNode_13 : decode cX3_checkNode 13 = .ok (.getfield 116, 3) := by decide +kernel
theorem dX3_checkNode_16 : decode cX3_checkNode 16 = .ok (.if_icmp .lt 13, 3) := by decide +kernel
theorem dX3_checkNode_19 : decode cX3_checkNode 19 = .ok (.new 77, 3) := by decide +kernel
theorem dX3_checkNode_22 : decode cX3_checkNode 22 = .ok (.dup, 1) := by decide +kernel
theorem dX3_checkNode_23 : decode cX3_checkNode 23 = .ok (.ldc 185, 2) := by decide +kernel
theorem dX3_checkNode_25 : decode cX3_checkNode 25 = .ok (.invokespecial 81, 3) := by decide +kernel
theorem dX3_checkNode_28 : decode cX3_checkNode 28 = .ok (.athrow, 1) := by decide +kernel
theorem dX3_checkNode_29 : decode cX3_checkNode 29 = .ok (.return_, 1) := by decide +kernel
theorem dX3_contains_0 : decode cX3_contains 0 = .ok (.iload_n 0, 1) := by decide +kernel
theorem dX3_contains_1 : decode cX3_contains 1 = .ok (.iload_n 1, 1) := by decide +kernel
theorem dX3_contains_2 : decode cX3_contains 2 = .ok (.ishr, 1) := by decide +kernel
theorem dX3_contains_3 : decode cX3_contains 3 = .ok (.iconst 1, 1) := by decide +kernel
theorem dX3_contains_4 : decode cX3_contains 4 = .ok (.iand, 1) := by decide +kernel
theorem dX3_contains_5 : decode cX3_contains 5 = .ok (.ifCond .eq 7, 3) := by decide +kernel
theorem dX3_contains_8 : decode cX3_contains 8 = .ok (.iconst 1, 1) := by decide +kernel
theorem dX3_contains_9 : decode cX3_contains 9 = .ok (.goto 4, 3) := by decide +kernel
theorem dX3_contains_12 : decode cX3_contains 12 = .ok (.iconst 0, 1) := by decide +kernel
theorem dX3_contains_13 : decode cX3_contains 13 = .ok (.ireturn, 1) := by decide +kernel
theorem dX3_countPairs_0 : decode cX3_countPairs 0 = .ok (.iload_n 1, 1) := by decide +kernel
theorem dX3_countPairs_1 : decode cX3_countPairs 1 = .ok (.bipush 12, 2) := by decide +kernel
theorem dX3_countPairs_3 : decode cX3_countPairs 3 = .ok (.imul, 1) := by decide +kernel
theorem dX3_countPairs_4 : decode cX3_countPairs 4 = .ok (.istore 4, 2) := by decide +kernel
theorem dX3_countPairs_6 : decode cX3_countPairs 6 = .ok (.iconst 0, 1) := by decide +kernel
theorem dX3_countPairs_7 : decode cX3_countPairs 7 = .ok (.istore 5, 2) := by decide +kernel
theorem dX3_countPairs_9 : decode cX3_countPairs 9 = .ok (.iconst 1, 1) := by decide +kernel
theorem dX3_countPairs_10 : decode cX3_countPairs 10 = .ok (.istore 6, 2) := by decide +kernel
theorem dX3_countPairs_12 : decode cX3_countPairs 12 = .ok (.iload 6, 2) := by decide +kernel
theorem dX3_countPairs_14 : decode cX3_countPairs 14 = .ok (.aload_n 0, 1) := by decide +kernel
theorem dX3_countPairs_15 : decode cX3_countPairs 15 = .ok (.getfield 20, 3) := by decide +kernel
theorem dX3_countPairs_18 : decode cX3_countPairs 18 = .ok (.iload_n 1, 1) := by decide +kernel
theorem dX3_countPairs_19 : decode cX3_countPairs 19 = .ok (.iaload, 1) := by decide +kernel
theorem dX3_countPairs_20 : decode cX3_countPairs 20 = .ok (.if_icmp .ge 42, 3) := by decide +kernel
theorem dX3_countPairs_23 : decode cX3_countPairs 23 = .ok (.aload_n 0, 1) := by decide +kernel
theorem dX3_countPairs_24 : decode cX3_countPairs 24 = .ok (.getfield 17, 3) := by decide +kernel
theorem dX3_countPairs_27 : decode cX3_countPairs 27 = .ok (.iload 4, 2) := by decide +kernel
theorem dX3_countPairs_29 : decode cX3_countPairs 29 = .ok (.iload 6, 2) := by decide +kernel
theorem dX3_countPairs_31 : decode cX3_countPairs 31 = .ok (.iadd, 1) := by decide +kernel
theorem dX3_countPairs_32 : decode cX3_countPairs 32 = .ok (.iconst 1, 1) := by decide +kernel
theorem dX3_countPairs_33 : decode cX3_countPairs 33 = .ok (.isub, 1) := by decide +kernel
theorem dX3_countPairs_34 : decode cX3_countPairs 34 = .ok (.iaload, 1) := by decide +kernel
theorem dX3_countPairs_35 : decode cX3_countPairs 35 = .ok (.iload_n 2, 1) := by decide +kernel
theorem dX3_countPairs_36 : decode cX3_countPairs 36 = .ok (.if_icmp .ne 20, 3) := by decide +kernel
theorem dX3_countPairs_39 : decode cX3_countPairs 39 = .ok (.aload_n 0, 1) := by decide +kernel
theorem dX3_countPairs_40 : decode cX3_countPairs 40 = .ok (.getfield 17, 3) := by decide +kernel
theorem dX3_countPairs_43 : decode cX3_countPairs 43 = .ok (.iload 4, 2) := by decide +kernel
theorem dX3_countPairs_45 : decode cX3_countPairs 45 = .ok (.iload 6, 2) := by decide +kernel
theorem dX3_countPairs_47 : decode cX3_countPairs 47 = .ok (.iadd, 1) := by decide +kernel
theorem dX3_countPairs_48 : decode cX3_countPairs 48 = .ok (.iaload, 1) := by decide +kernel
theorem dX3_countPairs_49 : decode cX3_countPairs 49 = .ok (.iload_n 3, 1) := by decide +kernel
theorem dX3_countPairs_50 : decode cX3_countPairs 50 = .ok (.if_icmp .ne 6, 3) := by decide +kernel
theorem dX3_countPairs_53 : decode cX3_countPairs 53 = .ok (.iinc 5 1, 3) := by decide +kernel
theorem dX3_countPairs_56 : decode cX3_countPairs 56 = .ok (.iinc 6 1, 3) := by decide +kernel
theorem dX3_countPairs_59 : decode cX3_countPairs 59 = .ok (.goto (-47), 3) := by decide +kernel
theorem dX3_countPairs_62 : decode cX3_countPairs 62 = .ok (.iload 5, 2) := by decide +kernel
theorem dX3_countPairs_64 : decode cX3_countPairs 64 = .ok (.ireturn, 1) := by decide +kernel
theorem dX3_isRepeated_0 : decode cX3_isRepeated 0 = .ok (.iconst 0, 1) := by decide +kernel
theorem dX3_isRepeated_1 : decode cX3_isRepeated 1 = .ok (.istore_n 2, 1) := by decide +kernel
theorem dX3_isRepeated_2 : decode cX3_isRepeated 2 = .ok (.iload_n 2, 1) := by decide +kernel
theorem dX3_isRepeated_3 : decode cX3_isRepeated 3 = .ok (.iload_n 1, 1) := by decide +kernel
theorem dX3_isRepeated_4 : decode cX3_isRepeated 4 = .ok (.if_icmp .ge 29, 3) := by decide +kernel
theorem dX3_isRepeated_7 : decode cX3_isRepeated 7 = .ok (.aload_n 0, 1) := by decide +kernel
theorem dX3_isRepeated_8 : decode cX3_isRepeated 8 = .ok (.getfield 23, 3) := by decide +kernel
theorem dX3_isRepeated_11 : decode cX3_isRepeated 11 = .ok (.iload_n 2, 1) := by decide +kernel
theorem dX3_isRepeated_12 : decode cX3_isRepeated 12 = .ok (.iaload, 1) := by decide +kernel
theorem dX3_isRepeated_13 : decode cX3_isRepeated 13 = .ok (.ifCond .le 14, 3) := by decide +kernel
theorem dX3_isRepeated_16 : decode cX3_isRepeated 16 = .ok (.aload_n 0, 1) := by decide +kernel
theorem dX3_isRepeated_17 : decode cX3_isRepeated 17 = .ok (.iload_n 2, 1) := by decide +kernel
theorem dX3_isRepeated_18 : decode cX3_isRepeated 18 = .ok (.iload_n 1, 1) := by decide +kernel
theorem dX3_isRepeated_19 : decode cX3_isRepeated 19 = .ok (.invokevirtual 187, 3) := by decide +kernel
theorem dX3_isRepeated_22 : decode cX3_isRepeated 22 = .ok (.ifCond .eq 5, 3) := by decide +kernel
theorem dX3_isRepeated_25 : decode cX3_isRepeated 25 = .ok (.iconst 1, 1) := by decide +kernel
theorem dX3_isRepeated_26 : decode cX3_isRepeated 26 = .ok (.ireturn, 1) := by decide +kernel
theorem dX3_isRepeated_27 : decode cX3_isRepeated 27 = .ok (.iinc 2 1, 3) := by decide +kernel
theorem dX3_isRepeated_30 : decode cX3_isRepeated 30 = .ok (.goto (-28), 3) := by decide +kernel
theorem dX3_isRepeated_33 : decode cX3_isRepeated 33 = .ok (.iconst 0, 1) := by decide +kernel
theorem dX3_isRepeated_34 : decode cX3_isRepeated 34 = .ok (.ireturn, 1) := by decide +kernel
theorem dX3_isSame_0 : decode cX3_isSame 0 = .ok (.aload_n 0, 1) := by decide +kernel
theorem dX3_isSame_1 : decode cX3_isSame 1 = .ok (.getfield 20, 3) := by decide +kernel
theorem dX3_isSame_4 : decode cX3_isSame 4 = .ok (.iload_n 1, 1) := by decide +kernel
theorem dX3_isSame_5 : decode cX3_isSame 5 = .ok (.iaload, 1) := by decide +kernel
theorem dX3_isSame_6 : decode cX3_isSame 6 = .ok (.aload_n 0, 1) := by decide +kernel
theorem dX3_isSame_7 : decode cX3_isSame 7 = .ok (.getfield 20, 3) := by decide +kernel
theorem dX3_isSame_10 : decode cX3_isSame 10 = .ok (.iload_n 2, 1) := by decide +kernel
theorem dX3_isSame_11 : decode cX3_isSame 11 = .ok (.iaload, 1) := by decide +kernel
theorem dX3_isSame_12 : decode cX3_isSame 12 = .ok (.if_icmp .eq 5, 3) := by decide +kernel
theorem dX3_isSame_15 : decode cX3_isSame 15 = .ok (.iconst 0, 1) := by decide +kernel
theorem dX3_isSame_16 : decode cX3_isSame 16 = .ok (.ireturn, 1) := by decide +kernel
theorem dX3_isSame_17 : decode cX3_isSame 17 = .ok (.iconst 0, 1) := by decide +kernel
theorem dX3_isSame_18 : decode cX3_isSame 18 = .ok (.istore_n 3, 1) := by decide +kernel
theorem dX3_isSame_19 : decode cX3_isSame 19 = .ok (.iload_n 3, 1) := by decide +kernel
theorem dX3_isSame_20 : decode cX3_isSame 20 = .ok (.aload_n 0, 1) := by decide +kernel
theorem dX3_isSame_21 : decode cX3_isSame 21 = .ok (.getfield 20, 3) := by decide +kernel
theorem dX3_isSame_24 : decode cX3_isSame 24 = .ok (.iload_n 1, 1) := by decide +kernel
theorem dX3_isSame_25 : decode cX3_isSame 25 = .ok (.iaload, 1) := by decide +kernel
theorem dX3_isSame_26 : decode cX3_isSame 26 = .ok (.if_icmp .ge 36, 3) := by decide +kernel
theorem dX3_isSame_29 : decode cX3_isSame 29 = .ok (.aload_n 0, 1) := by decide +kernel
theorem dX3_isSame_30 : decode cX3_isSame 30 = .ok (.getfield 17, 3) := by decide +kernel
theorem dX3_isSame_33 : decode cX3_isSame 33 = .ok (.iload_n 1, 1) := by decide +kernel
theorem dX3_isSame_34 : decode cX3_isSame 34 = .ok (.bipush 12, 2) := by decide +kernel
theorem dX3_isSame_36 : decode cX3_isSame 36 = .ok (.imul, 1) := by decide +kernel
theorem dX3_isSame_37 : decode cX3_isSame 37 = .ok (.iload_n 3, 1) := by decide +kernel
theorem dX3_isSame_38 : decode cX3_isSame 38 = .ok (.iadd, 1) := by decide +kernel
theorem dX3_isSame_39 : decode cX3_isSame 39 = .ok (.iaload, 1) := by decide +kernel
theorem dX3_isSame_40 : decode cX3_isSame 40 = .ok (.aload_n 0, 1) := by decide +kernel
theorem dX3_isSame_41 : decode cX3_isSame 41 = .ok (.getfield 17, 3) := by decide +kernel
theorem dX3_isSame_44 : decode cX3_isSame 44 = .ok (.iload_n 2, 1) := by decide +kernel
theorem dX3_isSame_45 : decode cX3_isSame 45 = .ok (.bipush 12, 2) := by decide +kernel
theorem dX3_isSame_47 : decode cX3_isSame 47 = .ok (.imul, 1) := by decide +kernel
theorem dX3_isSame_48 : decode cX3_isSame 48 = .ok (.iload_n 3, 1) := by decide +kernel
theorem dX3_isSame_49 : decode cX3_isSame 49 = .ok (.iadd, 1) := by decide +kernel
theorem dX3_isSame_50 : decode cX3_isSame 50 = .ok (.iaload, 1) := by decide +kernel
theorem dX3_isSame_51 : decode cX3_isSame 51 = .ok (.if_icmp .eq 5, 3) := by decide +kernel
theorem dX3_isSame_54 : decode cX3_isSame 54 = .ok (.iconst 0, 1) := by decide +kernel
theorem dX3_isSame_55 : decode cX3_isSame 55 = .ok (.ireturn, 1) := by decide +kernel
theorem dX3_isSame_56 : decode cX3_isSame 56 = .ok (.iinc 3 1, 3) := by decide +kernel
theorem dX3_isSame_59 : decode cX3_isSame 59 = .ok (.goto (-40), 3) := by decide +kernel
theorem dX3_isSame_62 : decode cX3_isSame 62 = .ok (.iconst 1, 1) := by decide +kernel
theorem dX3_isSame_63 : decode cX3_isSame 63 = .ok (.ireturn, 1) := by decide +kernel
theorem dX3_addTo_0 : decode cX3_addTo 0 = .ok (.lload_n 0, 1) := by decide +kernel
theorem dX3_addTo_1 : decode cX3_addTo 1 = .ok (.ldc2_w 190, 3) := by decide +kernel
theorem dX3_addTo_4 : decode cX3_addTo 4 = .ok (.lmul, 1) := by decide +kernel
theorem dX3_addTo_5 : decode cX3_addTo 5 = .ok (.iload_n 2, 1) := by decide +kernel
theorem dX3_addTo_6 : decode cX3_addTo 6 = .ok (.i2l, 1) := by decide +kernel
theorem dX3_addTo_7 : decode cX3_addTo 7 = .ok (.ladd, 1) := by decide +kernel
theorem dX3_addTo_8 : decode cX3_addTo 8 = .ok (.lreturn, 1) := by decide +kernel
theorem dX3_digestRow_0 : decode cX3_digestRow 0 = .ok (.lload_n 0, 1) := by decide +kernel
theorem dX3_digestRow_1 : decode cX3_digestRow 1 = .ok (.lstore 5, 2) := by decide +kernel
theorem dX3_digestRow_3 : decode cX3_digestRow 3 = .ok (.iconst 0, 1) := by decide +kernel
theorem dX3_digestRow_4 : decode cX3_digestRow 4 = .ok (.istore 7, 2) := by decide +kernel
theorem dX3_digestRow_6 : decode cX3_digestRow 6 = .ok (.iload 7, 2) := by decide +kernel
theorem dX3_digestRow_8 : decode cX3_digestRow 8 = .ok (.iload 4, 2) := by decide +kernel
theorem dX3_digestRow_10 : decode cX3_digestRow 10 = .ok (.if_icmp .ge 22, 3) := by decide +kernel
theorem dX3_digestRow_13 : decode cX3_digestRow 13 = .ok (.lload 5, 2) := by decide +kernel
theorem dX3_digestRow_15 : decode cX3_digestRow 15 = .ok (.aload_n 2, 1) := by decide +kernel
theorem dX3_digestRow_16 : decode cX3_digestRow 16 = .ok (.iload_n 3, 1) := by decide +kernel
theorem dX3_digestRow_17 : decode cX3_digestRow 17 = .ok (.iload 7, 2) := by decide +kernel
theorem dX3_digestRow_19 : decode cX3_digestRow 19 = .ok (.iadd, 1) := by decide +kernel
theorem dX3_digestRow_20 : decode cX3_digestRow 20 = .ok (.iaload, 1) := by decide +kernel
theorem dX3_digestRow_21 : decode cX3_digestRow 21 = .ok (.invokestatic 169, 3) := by decide +kernel
theorem dX3_digestRow_24 : decode cX3_digestRow 24 = .ok (.lstore 5, 2) := by decide +kernel
theorem dX3_digestRow_26 : decode cX3_digestRow 26 = .ok (.iinc 7 1, 3) := by decide +kernel
theorem dX3_digestRow_29 : decode cX3_digestRow 29 = .ok (.goto (-23), 3) := by decide +kernel
theorem dX3_digestRow_32 : decode cX3_digestRow 32 = .ok (.lload 5, 2) := by decide +kernel
theorem dX3_digestRow_34 : decode cX3_digestRow 34 = .ok (.lreturn, 1) := by decide +kernel
theorem dX3_readLog_0 : decode cX3_readLog 0 = .ok (.aload_n 0, 1) := by decide +kernel
theorem dX3_readLog_1 : decode cX3_readLog 1 = .ok (.getfield 31, 3) := by decide +kernel
theorem dX3_readLog_4 : decode cX3_readLog 4 = .ok (.iconst 0, 1) := by decide +kernel
theorem dX3_readLog_5 : decode cX3_readLog 5 = .ok (.aaload, 1) := by decide +kernel
theorem dX3_readLog_6 : decode cX3_readLog 6 = .ok (.astore_n 1, 1) := by decide +kernel
theorem dX3_readLog_7 : decode cX3_readLog 7 = .ok (.aload_n 1, 1) := by decide +kernel
theorem dX3_readLog_8 : decode cX3_readLog 8 = .ok (.invokevirtual 192, 3) := by decide +kernel
theorem dX3_readLog_11 : decode cX3_readLog 11 = .ok (.iconst 0, 1) := by decide +kernel
theorem dX3_readLog_12 : decode cX3_readLog 12 = .ok (.istore_n 2, 1) := by decide +kernel
theorem dX3_readLog_13 : decode cX3_readLog 13 = .ok (.iload_n 2, 1) := by decide +kernel
theorem dX3_readLog_14 : decode cX3_readLog 14 = .ok (.aload_n 0, 1) := by decide +kernel
theorem dX3_readLog_15 : decode cX3_readLog 15 = .ok (.getfield 26, 3) := by decide +kernel
theorem dX3_readLog_18 : decode cX3_readLog 18 = .ok (.if_icmp .ge 55, 3) := by decide +kernel
theorem dX3_readLog_21 : decode cX3_readLog 21 = .ok (.aload_n 0, 1) := by decide +kernel
theorem dX3_readLog_22 : decode cX3_readLog 22 = .ok (.getfield 23, 3) := by decide +kernel
theorem dX3_readLog_25 : decode cX3_readLog 25 = .ok (.iload_n 2, 1) := by decide +kernel
theorem dX3_readLog_26 : decode cX3_readLog 26 = .ok (.iaload, 1) := by decide +kernel
theorem dX3_readLog_27 : decode cX3_readLog 27 = .ok (.ifCond .le 40, 3) := by decide +kernel
theorem dX3_readLog_30 : decode cX3_readLog 30 = .ok (.iconst 0, 1) := by decide +kernel
theorem dX3_readLog_31 : decode cX3_readLog 31 = .ok (.istore_n 3, 1) := by decide +kernel
theorem dX3_readLog_32 : decode cX3_readLog 32 = .ok (.iload_n 3, 1) := by decide +kernel
theorem dX3_readLog_33 : decode cX3_readLog 33 = .ok (.aload_n 0, 1) := by decide +kernel
theorem dX3_readLog_34 : decode cX3_readLog 34 = .ok (.getfield 20, 3) := by decide +kernel
theorem dX3_readLog_37 : decode cX3_readLog 37 = .ok (.iload_n 2, 1) := by decide +kernel
theorem dX3_readLog_38 : decode cX3_readLog 38 = .ok (.iaload, 1) := by decide +kernel
theorem dX3_readLog_39 : decode cX3_readLog 39 = .ok (.if_icmp .ge 24, 3) := by decide +kernel
theorem dX3_readLog_42 : decode cX3_readLog 42 = .ok (.aload_n 1, 1) := by decide +kernel
theorem dX3_readLog_43 : decode cX3_readLog 43 = .ok (.aload_n 0, 1) := by decide +kernel
theorem dX3_readLog_44 : decode cX3_readLog 44 = .ok (.getfield 17, 3) := by decide +kernel
theorem dX3_readLog_47 : decode cX3_readLog 47 = .ok (.iload_n 2, 1) := by decide +kernel
theorem dX3_readLog_48 : decode cX3_readLog 48 = .ok (.bipush 12, 2) := by decide +kernel
theorem dX3_readLog_50 : decode cX3_readLog 50 = .ok (.imul, 1) := by decide +kernel
theorem dX3_readLog_51 : decode cX3_readLog 51 = .ok (.iload_n 3, 1) := by decide +kernel
theorem dX3_readLog_52 : decode cX3_readLog 52 = .ok (.iadd, 1) := by decide +kernel
theorem dX3_readLog_53 : decode cX3_readLog 53 = .ok (.iaload, 1) := by decide +kernel
theorem dX3_readLog_54 : decode cX3_readLog 54 = .ok (.invokevirtual 195, 3) := by decide +kernel
theorem dX3_readLog_57 : decode cX3_readLog 57 = .ok (.iinc 3 1, 3) := by decide +kernel
theorem dX3_readLog_60 : decode cX3_readLog 60 = .ok (.goto (-28), 3) := by decide +kernel
theorem dX3_readLog_63 : decode cX3_readLog 63 = .ok (.aload_n 1, 1) := by decide +kernel
theorem dX3_readLog_64 : decode cX3_readLog 64 = .ok (.invokevirtual 198, 3) := by decide +kernel
theorem dX3_readLog_67 : decode cX3_readLog 67 = .ok (.iinc 2 1, 3) := by decide +kernel
theorem dX3_readLog_70 : decode cX3_readLog 70 = .ok (.goto (-57), 3) := by decide +kernel
theorem dX3_readLog_73 : decode cX3_readLog 73 = .ok (.aload_n 1, 1) := by decide +kernel
theorem dX3_readLog_74 : decode cX3_readLog 74 = .ok (.invokevirtual 201, 3) := by decide +kernel
theorem dX3_readLog_77 : decode cX3_readLog 77 = .ok (.aload_n 1, 1) := by decide +kernel
theorem dX3_readLog_78 : decode cX3_readLog 78 = .ok (.areturn, 1) := by decide +kernel
theorem dX3_grow_0 : decode cX3_grow 0 = .ok (.iload_n 2, 1) := by decide +kernel
theorem dX3_grow_1 : decode cX3_grow 1 = .ok (.ifCond .lt 9, 3) := by decide +kernel
theorem dX3_grow_4 : decode cX3_grow 4 = .ok (.iload_n 2, 1) := by decide +kernel
theorem dX3_grow_5 : decode cX3_grow 5 = .ok (.aload_n 0, 1) := by decide +kernel
theorem dX3_grow_6 : decode cX3_grow 6 = .ok (.arraylength, 1) := by decide +kernel
theorem dX3_grow_7 : decode cX3_grow 7 = .ok (.if_icmp .lt 4, 3) := by decide +kernel
theorem dX3_grow_10 : decode cX3_grow 10 = .ok (.return_, 1) := by decide +kernel
theorem dX3_grow_11 : decode cX3_grow 11 = .ok (.aload_n 0, 1) := by decide +kernel
theorem dX3_grow_12 : decode cX3_grow 12 = .ok (.iload_n 2, 1) := by decide +kernel
theorem dX3_grow_13 : decode cX3_grow 13 = .ok (.aaload, 1) := by decide +kernel
theorem dX3_grow_14 : decode cX3_grow 14 = .ok (.astore 4, 2) := by decide +kernel
theorem dX3_grow_16 : decode cX3_grow 16 = .ok (.aload 4, 2) := by decide +kernel
theorem dX3_grow_18 : decode cX3_grow 18 = .ok (.invokevirtual 204, 3) := by decide +kernel
theorem dX3_grow_21 : decode cX3_grow 21 = .ok (.istore 5, 2) := by decide +kernel
theorem dX3_grow_23 : decode cX3_grow 23 = .ok (.aload_n 1, 1) := by decide +kernel
theorem dX3_grow_24 : decode cX3_grow 24 = .ok (.iload 5, 2) := by decide +kernel
theorem dX3_grow_26 : decode cX3_grow 26 = .ok (.aload 4, 2) := by decide +kernel
theorem dX3_grow_28 : decode cX3_grow 28 = .ok (.getfield 86, 3) := by decide +kernel
theorem dX3_grow_31 : decode cX3_grow 31 = .ok (.iload_n 3, 1) := by decide +kernel
theorem dX3_grow_32 : decode cX3_grow 32 = .ok (.invokevirtual 207, 3) := by decide +kernel
theorem dX3_grow_35 : decode cX3_grow 35 = .ok (.istore 6, 2) := by decide +kernel
theorem dX3_grow_37 : decode cX3_grow 37 = .ok (.iload 5, 2) := by decide +kernel
theorem dX3_grow_39 : decode cX3_grow 39 = .ok (.iconst 2, 1) := by decide +kernel
theorem dX3_grow_40 : decode cX3_grow 40 = .ok (.if_icmp .ne 20, 3) := by decide +kernel
theorem dX3_grow_43 : decode cX3_grow 43 = .ok (.aload 4, 2) := by decide +kernel
theorem dX3_grow_45 : decode cX3_grow 45 = .ok (.getfield 210, 3) := by decide +kernel
theorem dX3_grow_48 : decode cX3_grow 48 = .ok (.ifCond .eq 12, 3) := by decide +kernel
theorem dX3_grow_51 : decode cX3_grow 51 = .ok (.aload_n 1, 1) := by decide +kernel
theorem dX3_grow_52 : decode cX3_grow 52 = .ok (.iconst 0, 1) := by decide +kernel
theorem dX3_grow_53 : decode cX3_grow 53 = .ok (.iconst 0, 1) := by decide +kernel
theorem dX3_grow_54 : decode cX3_grow 54 = .ok (.iload 6, 2) := by decide +kernel
theorem dX3_grow_56 : decode cX3_grow 56 = .ok (.invokevirtual 207, 3) := by decide +kernel
theorem dX3_grow_59 : decode cX3_grow 59 = .ok (.pop, 1) := by decide +kernel
theorem dX3_grow_60 : decode cX3_grow 60 = .ok (.iload 5, 2) := by decide +kernel
theorem dX3_grow_62 : decode cX3_grow 62 = .ok (.iconst 5, 1) := by decide +kernel
theorem dX3_grow_63 : decode cX3_grow 63 = .ok (.if_icmp .ne 33, 3) := by decide +kernel
theorem dX3_grow_66 : decode cX3_grow 66 = .ok (.aload 4, 2) := by decide +kernel
theorem dX3_grow_68 : decode cX3_grow 68 = .ok (.getfield 213, 3) := by decide +kernel
theorem dX3_grow_71 : decode cX3_grow 71 = .ok (.ifCond .ne 25, 3) := by decide +kernel
theorem dX3_grow_74 : decode cX3_grow 74 = .ok (.aload_n 1, 1) := by decide +kernel
theorem dX3_grow_75 : decode cX3_grow 75 = .ok (.iconst 1, 1) := by decide +kernel
theorem dX3_grow_76 : decode cX3_grow 76 = .ok (.aload 4, 2) := by decide +kernel
theorem dX3_grow_78 : decode cX3_grow 78 = .ok (.getfield 86, 3) := by decide +kernel
theorem dX3_grow_81 : decode cX3_grow 81 = .ok (.iload 6, 2) := by decide +kernel
theorem dX3_grow_83 : decode cX3_grow 83 = .ok (.invokevirtual 207, 3) := by decide +kernel
theorem dX3_grow_86 : decode cX3_grow 86 = .ok (.pop, 1) := by decide +kernel
theorem dX3_grow_87 : decode cX3_grow 87 = .ok (.aload_n 1, 1) := by decide +kernel
theorem dX3_grow_88 : decode cX3_grow 88 = .ok (.iconst 0, 1) := by decide +kernel
theorem dX3_grow_89 : decode cX3_grow 89 = .ok (.iconst 0, 1) := by decide +kernel
theorem dX3_grow_90 : decode cX3_grow 90 = .ok (.iload 6, 2) := by decide +kernel
theorem dX3_grow_92 : decode cX3_grow 92 = .ok (.invokevirtual 207, 3) := by decide +kernel
theorem dX3_grow_95 : decode cX3_grow 95 = .ok (.pop, 1) := by decide +kernel
theorem dX3_grow_96 : decode cX3_grow 96 = .ok (.iconst 0, 1) := by decide +kernel
theorem dX3_grow_97 : decode cX3_grow 97 = .ok (.istore 7, 2) := by decide +kernel
theorem dX3_grow_99 : decode cX3_grow 99 = .ok (.iload 7, 2) := by decide +kernel
theorem dX3_grow_101 : decode cX3_grow 101 = .ok (.aload 4, 2) := by decide +kernel
theorem dX3_grow_103 : decode cX3_grow 103 = .ok (.getfield 213, 3) := by decide +kernel
theorem dX3_grow_106 : decode cX3_grow 106 = .ok (.if_icmp .ge 47, 3) := by decide +kernel
theorem dX3_grow_109 : decode cX3_grow 109 = .ok (.iload_n 2, 1) := by decide +kernel
theorem dX3_grow_110 : decode cX3_grow 110 = .ok (.iconst 1, 1) := by decide +kernel
theorem dX3_grow_111 : decode cX3_grow 111 = .ok (.iadd, 1) := by decide +kernel
theorem dX3_grow_112 : decode cX3_grow 112 = .ok (.aload_n 0, 1) := by decide +kernel
theorem dX3_grow_113 : decode cX3_grow 113 = .ok (.arraylength, 1) := by decide +kernel
theorem dX3_grow_114 : decode cX3_grow 114 = .ok (.if_icmp .ge 33, 3) := by decide +kernel
theorem dX3_grow_117 : decode cX3_grow 117 = .ok (.aload_n 0, 1) := by decide +kernel
theorem dX3_grow_118 : decode cX3_grow 118 = .ok (.iload_n 2, 1) := by decide +kernel
theorem dX3_grow_119 : decode cX3_grow 119 = .ok (.iconst 1, 1) := by decide +kernel
theorem dX3_grow_120 : decode cX3_grow 120 = .ok (.iadd, 1) := by decide +kernel
theorem dX3_grow_121 : decode cX3_grow 121 = .ok (.aaload, 1) := by decide +kernel
theorem dX3_grow_122 : decode cX3_grow 122 = .ok (.aload 4, 2) := by decide +kernel
theorem dX3_grow_124 : decode cX3_grow 124 = .ok (.aload 4, 2) := by decide +kernel
theorem dX3_grow_126 : decode cX3_grow 126 = .ok (.getfield 216, 3) := by decide +kernel
theorem dX3_grow_129 : decode cX3_grow 129 = .ok (.iload 7, 2) := by decide +kernel
theorem dX3_grow_131 : decode cX3_grow 131 = .ok (.iaload, 1) := by decide +kernel
theorem dX3_grow_132 : decode cX3_grow 132 = .ok (.iload 5, 2) := by decide +kernel
theorem dX3_grow_134 : decode cX3_grow 134 = .ok (.invokevirtual 219, 3) := by decide +kernel
theorem dX3_grow_137 : decode cX3_grow 137 = .ok (.aload_n 0, 1) := by decide +kernel
theorem dX3_grow_138 : decode cX3_grow 138 = .ok (.aload_n 1, 1) := by decide +kernel
theorem dX3_grow_139 : decode cX3_grow 139 = .ok (.iload_n 2, 1) := by decide +kernel
theorem dX3_grow_140 : decode cX3_grow 140 = .ok (.iconst 1, 1) := by decide +kernel
theorem dX3_grow_141 : decode cX3_grow 141 = .ok (.iadd, 1) := by decide +kernel
theorem dX3_grow_142 : decode cX3_grow 142 = .ok (.iload 6, 2) := by decide +kernel
theorem dX3_grow_144 : decode cX3_grow 144 = .ok (.invokestatic 119, 3) := by decide +kernel
theorem dX3_grow_147 : decode cX3_grow 147 = .ok (.iinc 7 1, 3) := by decide +kernel
theorem dX3_grow_150 : decode cX3_grow 150 = .ok (.goto (-51), 3) := by decide +kernel
theorem dX3_grow_153 : decode cX3_grow 153 = .ok (.return_, 1) := by decide +kernel
end
section
theorem dX4_init_0 : decode cX4_init 0 = .ok (.aload_n 0, 1) := by decide +kernel
theorem dX4_init_1 : decode cX4_init 1 = .ok (.invokespecial 1, 3) := by decide +kernel
theorem dX4_init_4 : decode cX4_init 4 = .ok (.aload_n 0, 1) := by decide +kernel
theorem dX4_init_5 : decode cX4_init 5 = .ok (.bipush 12, 2) := by decide +kernel
theorem dX4_init_7 : decode cX4_init 7 = .ok (.newarray .int, 2) := by decide +kernel
theorem dX4_init_9 : decode cX4_init 9 = .ok (.putfield 9, 3) := by decide +kernel
theorem dX4_init_12 : decode cX4_init 12 = .ok (.aload_n 0, 1) := by decide +kernel
theorem dX4_init_13 : decode cX4_init 13 = .ok (.bipush 10, 2) := by decide +kernel
theorem dX4_init_15 : decode cX4_init 15 = .ok (.newarray .int, 2) := by decide +kernel
theorem dX4_init_17 : decode cX4_init 17 = .ok (.putfield 13, 3) := by decide +kernel
theorem dX4_init_20 : decode cX4_init 20 = .ok (.aload_n 0, 1) := by decide +kernel
theorem dX4_init_21 : decode cX4_init 21 = .ok (.bipush 10, 2) := by decide +kernel
theorem dX4_init_23 : decode cX4_init 23 = .ok (.newarray .int, 2) := by decide +kernel
theorem dX4_init_25 : decode cX4_init 25 = .ok (.putfield 16, 3) := by decide +kernel
theorem dX4_init_28 : decode cX4_init 28 = .ok (.aload_n 0, 1) := by decide +kernel
theorem dX4_init_29 : decode cX4_init 29 = .ok (.bipush 120, 2) := by decide +kernel
theorem dX4_init_31 : decode cX4_init 31 = .ok (.newarray .int, 2) := by decide +kernel
theorem dX4_init_33 : decode cX4_init 33 = .ok (.putfield 19, 3) := by decide +kernel
theorem dX4_init_36 : decode cX4_init 36 = .ok (.aload_n 0, 1) := by decide +kernel
theorem dX4_init_37 : decode cX4_init 37 = .ok (.sipush 200, 3) := by decide +kernel
theorem dX4_init_40 : decode cX4_init 40 = .ok (.newarray .int, 2) := by decide +kernel
theorem dX4_init_42 : decode cX4_init 42 = .ok (.putfield 22, 3) := by decide +kernel
theorem dX4_init_45 : decode cX4_init 45 = .ok (.aload_n 0, 1) := by decide +kernel
theorem dX4_init_46 : decode cX4_init 46 = .ok (.sipush 200, 3) := by decide +kernel
theorem dX4_init_49 : decode cX4_init 49 = .ok (.newarray .int, 2) := by decide +kernel
theorem dX4_init_51 : decode cX4_init 51 = .ok (.putfield 25, 3) := by decide +kernel
theorem dX4_init_54 : decode cX4_init 54 = .ok (.aload_n 0, 1) := by decide +kernel
theorem dX4_init_55 : decode cX4_init 55 = .ok (.sipush 200, 3) := by decide +kernel
theorem dX4_init_58 : decode cX4_init 58 = .ok (.newarray .int, 2) := by decide +kernel
theorem dX4_init_60 : decode cX4_init 60 = .ok (.putfield 28, 3) := by decide +kernel
theorem dX4_init_63 : decode cX4_init 63 = .ok (.aload_n 0, 1) := by decide +kernel
theorem dX4_init_64 : decode cX4_init 64 = .ok (.bipush 12, 2) := by decide +kernel
theorem dX4_init_66 : decode cX4_init 66 = .ok (.newarray .int, 2) := by decide +kernel
theorem dX4_init_68 : decode cX4_init 68 = .ok (.putfield 31, 3) := by decide +kernel
theorem dX4_init_71 : decode cX4_init 71 = .ok (.return_, 1) := by decide +kernel
theorem dX4_thrown_0 : decode cX4_thrown 0 = .ok (.aload_n 0, 1) := by decide +kernel
theorem dX4_thrown_1 : decode cX4_thrown 1 = .ok (.getfield 34, 3) := by decide +kernel
theorem dX4_thrown_4 : decode cX4_thrown 4 = .ok (.ireturn, 1) := by decide +kernel
theorem dX4_fail_0 : decode cX4_fail 0 = .ok (.aload_n 0, 1) := by decide +kernel
theorem dX4_fail_1 : decode cX4_fail 1 = .ok (.iload_n 1, 1) := by decide +kernel
theorem dX4_fail_2 : decode cX4_fail 2 = .ok (.putfield 34, 3) := by decide +kernel
theorem dX4_fail_5 : decode cX4_fail 5 = .ok (.iconst 0, 1) := by decide +kernel
theorem dX4_fail_6 : decode cX4_fail 6 = .ok (.ireturn, 1) := by decide +kernel
theorem dX4_isLabel_0 : decode cX4_isLabel 0 = .ok (.iload_n 0, 1) := by decide +kernel
theorem dX4_isLabel_1 : decode cX4_isLabel 1 = .ok (.ifCond .lt 13, 3) := by decide +kernel
theorem dX4_isLabel_4 : decode cX4_isLabel 4 = .ok (.iload_n 0, 1) := by decide +kernel
theorem dX4_isLabel_5 : decode cX4_isLabel 5 = .ok (.bipush 8, 2) := by decide +kernel
theorem dX4_isLabel_7 : decode cX4_isLabel 7 = .ok (.if_icmp .ge 7, 3) := by decide +kernel
theorem dX4_isLabel_10 : decode cX4_isLabel 10 = .ok (.iconst 1, 1) := by decide +kernel
theorem dX4_isLabel_11 : decode cX4_isLabel 11 = .ok (.goto 4, 3) := by decide +kernel
theorem dX4_isLabel_14 : decode cX4_isLabel 14 = .ok (.iconst 0, 1) := by decide +kernel
theorem dX4_isLabel_15 : decode cX4_isLabel 15 = .ok (.ireturn, 1) := by decide +kernel
theorem dX4_isTrace_0 : decode cX4_isTrace 0 = .ok (.iload_n 1, 1) := by decide +kernel
theorem dX4_isTrace_1 : decode cX4_isTrace 1 = .ok (.ifCond .lt 15, 3) := by decide +kernel
theorem dX4_isTrace_4 : decode cX4_isTrace 4 = .ok (.iload_n 1, 1) := by decide +kernel
theorem dX4_isTrace_5 : decode cX4_isTrace 5 = .ok (.aload_n 0, 1) := by decide +kernel
theorem dX4_isTrace_6 : decode cX4_isTrace 6 = .ok (.getfield 38, 3) := by decide +kernel
theorem dX4_isTrace_9 : decode cX4_isTrace 9 = .ok (.if_icmp .ge 7, 3) := by decide +kernel
theorem dX4_isTrace_12 : decode cX4_isTrace 12 = .ok (.iconst 1, 1) := by decide +kernel
theorem dX4_isTrace_13 : decode cX4_isTrace 13 = .ok (.goto 4, 3) := by decide +kernel
theorem dX4_isTrace_16 : decode cX4_isTrace 16 = .ok (.iconst 0, 1) := by decide +kernel
theorem dX4_isTrace_17 : decode cX4_isTrace 17 = .ok (.ireturn, 1) := by decide +kernel
theorem dX4_isTimes_0 : decode cX4_isTimes 0 = .ok (.iload_n 0, 1) := by decide +kernel
theorem dX4_isTimes_1 : decode cX4_isTimes 1 = .ok (.ifCond .lt 13, 3) := by decide +kernel
theorem dX4_isTimes_4 : decode cX4_isTimes 4 = .ok (.iload_n 0, 1) := by decide +kernel
theorem dX4_isTimes_5 : decode cX4_isTimes 5 = .ok (.bipush 99, 2) := by decide +kernel
theorem dX4_isTimes_7 : decode cX4_isTimes 7 = .ok (.if_icmp .gt 7, 3) := by decide +kernel
theorem dX4_isTimes_10 : decode cX4_isTimes 10 = .ok (.iconst 1, 1) := by decide +kernel
theorem dX4_isTimes_11 : decode cX4_isTimes 11 = .ok (.goto 4, 3) := by decide +kernel
theorem dX4_isTimes_14 : decode cX4_isTimes 14 = .ok (.iconst 0, 1) := by decide +kernel
theorem dX4_isTimes_15 : decode cX4_isTimes 15 = .ok (.ireturn, 1) := by decide +kernel
theorem dX4_has_0 : decode cX4_has 0 = .ok (.iload_n 0, 1) := by decide +kernel
theorem dX4_has_1 : decode cX4_has 1 = .ok (.iload_n 1, 1) := by decide +kernel
theorem dX4_has_2 : decode cX4_has 2 = .ok (.ishr, 1) := by decide +kernel
theorem dX4_has_3 : decode cX4_has 3 = .ok (.iconst 1, 1) := by decide +kernel
theorem dX4_has_4 : decode cX4_has 4 = .ok (.iand, 1) := by decide +kernel
theorem dX4_has_5 : decode cX4_has 5 = .ok (.iconst 1, 1) := by decide +kernel
theorem dX4_has_6 : decode cX4_has 6 = .ok (.if_icmp .ne 7, 3) := by decide +kernel
theorem dX4_has_9 : decode cX4_has 9 = .ok (.iconst 1, 1) := by decide +kernel
theorem dX4_has_10 : decode cX4_has 10 = .ok (.goto 4, 3) := by decide +kernel
theorem dX4_has_13 : decode cX4_has 13 = .ok (.iconst 0, 1) := by decide +kernel
theorem dX4_has_14 : decode cX4_has 14 = .ok (.ireturn, 1) := by decide +kernel
theorem dX4_event_0 : decode cX4_event 0 = .ok (.aload_n 0, 1) := by decide +kernel
theorem dX4_event_1 : decode cX4_event 1 = .ok (.iconst 0, 1) := by decide +kernel
theorem dX4_event_2 : decode cX4_event 2 = .ok (.putfield 34, 3) := by decide +kernel
theorem dX4_event_5 : decode cX4_event 5 = .ok (.iload_n 1, 1) := by decide +kernel
theorem dX4_event_6 : decode cX4_event 6 = .ok (.invokestatic 41, 3) := by decide +kernel
theorem dX4_event_9 : decode cX4_event 9 = .ok (.ifCond .ne 9, 3) := by decide +kernel
theorem dX4_event_12 : decode cX4_event 12 = .ok (.aload_n 0, 1) := by decide +kernel
theorem dX4_event_13 : decode cX4_event 13 = .ok (.iconst 1, 1) := by decide +kernel
theorem dX4_event_14 : decode cX4_event 14 = .ok (.invokevirtual 45, 3) := by decide +kernel
theorem dX4_event_17 : decode cX4_event 17 = .ok (.ireturn, 1) := by decide +kernel
theorem dX4_event_18 : decode cX4_event 18 = .ok (.aload_n 0, 1) := by decide +kernel
theorem dX4_event_19 : decode cX4_event 19 = .ok (.getfield 49, 3) := by decide +kernel
theorem dX4_event_22 : decode cX4_event 22 = .ok (.bipush 12, 2) := by decide +kernel
theorem dX4_event_24 : decode cX4_event 24 = .ok (.if_icmp .ne 9, 3) := by decide +kernel
theorem dX4_event_27 : decode cX4_event 27 = .ok (.aload_n 0, 1) := by decide +kernel
theorem dX4_event_28 : decode cX4_event 28 = .ok (.iconst 2, 1) := by decide +kernel
theorem dX4_event_29 : decode cX4_event 29 = .ok (.invokevirtual 45, 3) := by decide +kernel
theorem dX4_event_32 : decode cX4_event 32 = .ok (.ireturn, 1) := by decide +kernel
theorem dX4_event_33 : decode cX4_event 33 = .ok (.aload_n 0, 1) := by decide +kernel
theorem dX4_event_34 : decode cX4_event 34 = .ok (.getfield 9, 3) := by decide +kernel
theorem dX4_event_37 : decode cX4_event 37 = .ok (.aload_n 0, 1) := by decide +kernel
theorem dX4_event_38 : decode cX4_event 38 = .ok (.getfield 49, 3) := by decide +kernel
theorem dX4_event_41 : decode cX4_event 41 = .ok (.iload_n 1, 1) := by decide +kernel
theorem dX4_event_42 : decode cX4_event 42 = .ok (.iastore, 1) := by decide +kernel
theorem dX4_event_43 : decode cX4_event 43 = .ok (.aload_n 0, 1) := by decide +kernel
theorem dX4_event_44 : decode cX4_event 44 = .ok (.dup, 1) := by decide +kernel
theorem dX4_event_45 : decode cX4_event 45 = .ok (.getfield 49, 3) := by decide +kernel
theorem dX4_event_48 : decode cX4_event 48 = .ok (.iconst 1, 1) := by decide +kernel
theorem dX4_event_49 : decode cX4_event 49 = .ok (.iadd, 1) := by decide +kernel
theorem dX4_event_50 : decode cX4_event 50 = .ok (.putfield 49, 3) := by decide +kernel
theorem dX4_event_53 : decode cX4_event 53 = .ok (.aload_n 0, 1) := by decide +kernel
theorem dX4_event_54 : decode cX4_event 54 = .ok (.getfield 49, 3) := by decide +kernel
theorem dX4_event_57 : decode cX4_event 57 = .ok (.ireturn, 1) := by decide +kernel
theorem dX4_endTrace_0 : decode cX4_endTrace 0 = .ok (.aload_n 0, 1) := by decide +kernel
theorem dX4_endTrace_1 : decode cX4_endTrace 1 = .ok (.iconst 0, 1) := by decide +kernel
theorem dX4_endTrace_2 : decode cX4_endTrace 2 = .ok (.putfield 34, 3) := by decide +kernel
theorem dX4_endTrace_5 : decode cX4_endTrace 5 = .ok (.iload_n 1, 1) := by decide +kernel
theorem dX4_endTrace_6 : decode cX4_endTrace 6 = .ok (.invokestatic 52, 3) := by decide +kernel
theorem dX4_endTrace_9 : decode cX4_endTrace 9 = .ok (.ifCond .ne 9, 3) := by decide +kernel
theorem dX4_endTrace_12 : decode cX4_endTrace 12 = .ok (.aload_n 0, 1) := by decide +kernel
theorem dX4_endTrace_13 : decode cX4_endTrace 13 = .ok (.iconst 1, 1) := by decide +kernel
theorem dX4_endTrace_14 : decode cX4_endTrace 14 = .ok (.invokevirtual 45, 3) := by decide +kernel
theorem dX4_endTrace_17 : decode cX4_endTrace 17 = .ok (.ireturn, 1) := by decide +kernel
theorem dX4_endTrace_18 : decode cX4_endTrace 18 = .ok (.aload_n 0, 1) := by decide +kernel
theorem dX4_endTrace_19 : decode cX4_endTrace 19 = .ok (.getfield 38, 3) := by decide +kernel
theorem dX4_endTrace_22 : decode cX4_endTrace 22 = .ok (.bipush 10, 2) := by decide +kernel
theorem dX4_endTrace_24 : decode cX4_endTrace 24 = .ok (.if_icmp .ne 9, 3) := by decide +kernel
theorem dX4_endTrace_27 : decode cX4_endTrace 27 = .ok (.aload_n 0, 1) := by decide +kernel
theorem dX4_endTrace_28 : decode cX4_endTrace 28 = .ok (.iconst 2, 1) := by decide +kernel
theorem dX4_endTrace_29 : decode cX4_endTrace 29 = .ok (.invokevirtual 45, 3) := by decide +kernel
theorem dX4_endTrace_32 : decode cX4_endTrace 32 = .ok (.ireturn, 1) := by decide +kernel
theorem dX4_endTrace_33 : decode cX4_endTrace 33 = .ok (.aload_n 0, 1) := by decide +kernel
theorem dX4_endTrace_34 : decode cX4_endTrace 34 = .ok (.getfield 13, 3) := by decide +kernel
theorem dX4_endTrace_37 : decode cX4_endTrace 37 = .ok (.aload_n 0, 1) := by decide +kernel
theorem dX4_endTrace_38 : decode cX4_endTrace 38 = .ok (.getfield 38, 3) := by decide +kernel
theorem dX4_endTrace_41 : decode cX4_endTrace 41 = .ok (.iload_n 1, 1) := by decide +kernel
theorem dX4_endTrace_42 : decode cX4_endTrace 42 = .ok (.iastore, 1) := by decide +kernel
theorem dX4_endTrace_43 : decode cX4_endTrace 43 = .ok (.aload_n 0, 1) := by decide +kernel
theorem dX4_endTrace_44 : decode cX4_endTrace 44 = .ok (.getfield 16, 3) := by decide +kernel
theorem dX4_endTrace_47 : decode cX4_endTrace 47 = .ok (.aload_n 0, 1) := by decide +kernel
theorem dX4_endTrace_48 : decode cX4_endTrace 48 = .ok (.getfield 38, 3) := by decide +kernel
theorem dX4_endTrace_51 : decode cX4_endTrace 51 = .ok (.aload_n 0, 1) := by decide +kernel
theorem dX4_endTrace_52 : decode cX4_endTrace 52 = .ok (.getfield 49, 3) := by decide +kernel
theorem dX4_endTrace_55 : decode cX4_endTrace 55 = .ok (.iastore, 1) := by decide +kernel
theorem dX4_endTrace_56 : decode cX4_endTrace 56 = .ok (.iconst 0, 1) := by decide +kernel
theorem dX4_endTrace_57 : decode cX4_endTrace 57 = .ok (.istore_n 2, 1) := by decide +kernel
theorem dX4_endTrace_58 : decode cX4_endTrace 58 = .ok (.iload_n 2, 1) := by decide +kernel
theorem dX4_endTrace_59 : decode cX4_endTrace 59 = .ok (.aload_n 0, 1) := by decide +kernel
theorem dX4_endTrace_60 : decode cX4_endTrace 60 = .ok (.getfield 49, 3) := by decide +kernel
theorem dX4_endTrace_63 : decode cX4_endTrace 63 = .ok (.if_icmp .ge 29, 3) := by decide +kernel
theorem dX4_endTrace_66 : decode cX4_endTrace 66 = .ok (.aload_n 0, 1) := by decide +kernel
theorem dX4_endTrace_67 : decode cX4_endTrace 67 = .ok (.getfield 19, 3) := by decide +kernel
theorem dX4_endTrace_70 : decode cX4_endTrace 70 = .ok (.bipush 12, 2) := by decide +kernel
theorem dX4_endTrace_72 : decode cX4_endTrace 72 = .ok (.aload_n 0, 1) := by decide +kernel
theorem dX4_endTrace_73 : decode cX4_endTrace 73 = .ok (.getfield 38, 3) := by decide +kernel
theorem dX4_endTrace_76 : decode cX4_endTrace 76 = .ok (.imul, 1) := by decide +kernel
theorem dX4_endTrace_77 : decode cX4_endTrace 77 = .ok (.iload_n 2, 1) := by decide +kernel
theorem dX4_endTrace_78 : decode cX4_endTrace 78 = .ok (.iadd, 1) := by decide +kernel
theorem dX4_endTrace_79 : decode cX4_endTrace 79 = .ok (.aload_n 0, 1) := by decide +kernel
theorem dX4_endTrace_80 : decode cX4_endTrace 80 = .ok (.getfield 9, 3) := by decide +kernel
theorem dX4_endTrace_83 : decode cX4_endTrace 83 = .ok (.iload_n 2, 1) := by decide +kernel
theorem dX4_endTrace_84 : decode cX4_endTrace 84 = .ok (.iaload, 1) := by decide +kernel
theorem dX4_endTrace_85 : decode cX4_endTrace 85 = .ok (.iastore, 1) := by decide +kernel
theorem dX4_endTrace_86 : decode cX4_endTrace 86 = .ok (.iinc 2 1, 3) := by decide +kernel
theorem dX4_endTrace_89 : decode cX4_endTrace 89 = .ok (.goto (-31), 3) := by decide +kernel
theorem dX4_endTrace_92 : decode cX4_endTrace 92 = .ok (.aload_n 0, 1) := by decide +kernel
theorem dX4_endTrace_93 : decode cX4_endTrace 93 = .ok (.iconst 0, 1) := by decide +kernel
theorem dX4_endTrace_94 : decode cX4_endTrace 94 = .ok (.putfield 49, 3) := by decide +kernel
theorem dX4_endTrace_97 : decode cX4_endTrace 97 = .ok (.aload_n 0, 1) := by decide +kernel
theorem dX4_endTrace_98 : decode cX4_endTrace 98 = .ok (.dup, 1) := by decide +kernel
theorem dX4_endTrace_99 : decode cX4_endTrace 99 = .ok (.getfield 38, 3) := by decide +kernel
theorem dX4_endTrace_102 : decode cX4_endTrace 102 = .ok (.iconst 1, 1) := by decide +kernel
theorem dX4_endTrace_103 : decode cX4_endTrace 103 = .ok (.iadd, 1) := by decide +kernel
theorem dX4_endTrace_104 : decode cX4_endTrace 104 = .ok (.putfield 38, 3) := by decide +kernel
theorem dX4_endTrace_107 : decode cX4_endTrace 107 = .ok (.aload_n 0, 1) := by decide +kernel
theorem dX4_endTrace_108 : decode cX4_endTrace 108 = .ok (.iconst 0, 1) := by decide +kernel
theorem dX4_endTrace_109 : decode cX4_endTrace 109 = .ok (.putfield 55, 3) := by decide +kernel
theorem dX4_endTrace_112 : decode cX4_endTrace 112 = .ok (.aload_n 0, 1) := by decide +kernel
theorem dX4_endTrace_113 : decode cX4_endTrace 113 = .ok (.getfield 38, 3) := by decide +kernel
theorem dX4_endTrace_116 : decode cX4_endTrace 116 = .ok (.iconst 1, 1) := by decide +kernel
theorem dX4_endTrace_117 : decode cX4_endTrace 117 = .ok (.isub, 1) := by decide +kernel
theorem dX4_endTrace_118 : decode cX4_endTrace 118 = .ok (.ireturn, 1) := by decide +kernel
theorem dX4_setTimes_0 : decode cX4_setTimes 0 = .ok (.aload_n 0, 1) := by decide +kernel
theorem dX4_setTimes_1 : decode cX4_setTimes 1 = .ok (.iconst 0, 1) := by decide +kernel
theorem dX4_setTimes_2 : decode cX4_setTimes 2 = .ok (.putfield 34, 3) := by decide +kernel
theorem dX4_setTimes_5 : decode cX4_setTimes 5 = .ok (.aload_n 0, 1) := by decide +kernel
theorem dX4_setTimes_6 : decode cX4_setTimes 6 = .ok (.iload_n 1, 1) := by decide +kernel
theorem dX4_setTimes_7 : decode cX4_setTimes 7 = .ok (.invokevirtual 59, 3) := by decide +kernel
theorem dX4_setTimes_10 : decode cX4_setTimes 10 = .ok (.ifCond .ne 9, 3) := by decide +kernel
theorem dX4_setTimes_13 : decode cX4_setTimes 13 = .ok (.aload_n 0, 1) := by decide +kernel
theorem dX4_setTimes_14 : decode cX4_setTimes 14 = .ok (.iconst 1, 1) := by decide +kernel
theorem dX4_setTimes_15 : decode cX4_setTimes 15 = .ok (.invokevirtual 45, 3) := by decide +kernel
theorem dX4_setTimes_18 : decode cX4_setTimes 18 = .ok (.ireturn, 1) := by decide +kernel
theorem dX4_setTimes_19 : decode cX4_setTimes 19 = .ok (.iload_n 2, 1) := by decide +kernel
theorem dX4_setTimes_20 : decode cX4_setTimes 20 = .ok (.invokestatic 52, 3) := by decide +kernel
theorem dX4_setTimes_23 : decode cX4_setTimes 23 = .ok (.ifCond .ne 9, 3) := by decide +kernel
theorem dX4_setTimes_26 : decode cX4_setTimes 26 = .ok (.aload_n 0, 1) := by decide +kernel
theorem dX4_setTimes_27 : decode cX4_setTimes 27 = .ok (.iconst 2, 1) := by decide +kernel
theorem dX4_setTimes_28 : decode cX4_setTimes 28 = .ok (.invokevirtual 45, 3) := by decide +kernel
theorem dX4_setTimes_31 : decode cX4_setTimes 31 = .ok (.ireturn, 1) := by decide +kernel
theorem dX4_setTimes_32 : decode cX4_setTimes 32 = .ok (.aload_n 0, 1) := by decide +kernel
theorem dX4_setTimes_33 : decode cX4_setTimes 33 = .ok (.getfield 13, 3) := by decide +kernel
theorem dX4_setTimes_36 : decode cX4_setTimes 36 = .ok (.iload_n 1, 1) := by decide +kernel
theorem dX4_setTimes_37 : decode cX4_setTimes 37 = .ok (.iaload, 1) := by decide +kernel
theorem dX4_setTimes_38 : decode cX4_setTimes 38 = .ok (.istore_n 3, 1) := by decide +kernel
theorem dX4_setTimes_39 : decode cX4_setTimes 39 = .ok (.aload_n 0, 1) := by decide +kernel
theorem dX4_setTimes_40 : decode cX4_setTimes 40 = .ok (.getfield 13, 3) := by decide +kernel
theorem dX4_setTimes_43 : decode cX4_setTimes 43 = .ok (.iload_n 1, 1) := by decide +kernel
theorem dX4_setTimes_44 : decode cX4_setTimes 44 = .ok (.iload_n 2, 1) := by decide +kernel
theorem dX4_setTimes_45 : decode cX4_setTimes 45 = .ok (.iastore, 1) := by decide +kernel
theorem dX4_setTimes_46 : decode cX4_setTimes 46 = .ok (.aload_n 0, 1) := by decide +kernel
theorem dX4_setTimes_47 : decode cX4_setTimes 47 = .ok (.iconst 0, 1) := by decide +kernel
theorem dX4_setTimes_48 : decode cX4_setTimes 48 = .ok (.putfield 55, 3) := by decide +kernel
theorem dX4_setTimes_51 : decode cX4_setTimes 51 = .ok (.iload_n 3, 1) := by decide +kernel
theorem dX4_setTimes_52 : decode cX4_setTimes 52 = .ok (.ireturn, 1) := by decide +kernel
theorem dX4_dropTrace_0 : decode cX4_dropTrace 0 = .ok (.aload_n 0, 1) := by decide +kernel
theorem dX4_dropTrace_1 : decode cX4_dropTrace 1 = .ok (.iconst 0, 1) := by decide +kernel
theorem dX4_dropTrace_2 : decode cX4_dropTrace 2 = .ok (.putfield 34, 3) := by decide +kernel
theorem dX4_dropTrace_5 : decode cX4_dropTrace 5 = .ok (.aload_n 0, 1) := by decide +kernel
theorem dX4_dropTrace_6 : decode cX4_dropTrace 6 = .ok (.getfield 38, 3) := by decide +kernel
theorem dX4_dropTrace_9 : decode cX4_dropTrace 9 = .ok (.ifCond .ne 9, 3) := by decide +kernel
theorem dX4_dropTrace_12 : decode cX4_dropTrace 12 = .ok (.aload_n 0, 1) := by decide +kernel
theorem dX4_dropTrace_13 : decode cX4_dropTrace 13 = .ok (.iconst 1, 1) := by decide +kernel
theorem dX4_dropTrace_14 : decode cX4_dropTrace 14 = .ok (.invokevirtual 45, 3) := by decide +kernel
theorem dX4_dropTrace_17 : decode cX4_dropTrace 17 = .ok (.ireturn, 1) := by decide +kernel
theorem dX4_dropTrace_18 : decode cX4_dropTrace 18 = .ok (.aload_n 0, 1) := by decide +kernel
theorem dX4_dropTrace_19 : decode cX4_dropTrace 19 = .ok (.dup, 1) := by decide +kernel
theorem dX4_dropTrace_20 : decode cX4_dropTrace 20 = .ok (.getfield 38, 3) := by decide +kernel
theorem dX4_dropTrace_23 : decode cX4_dropTrace 23 = .ok (.iconst 1, 1) := by decide +kernel
theorem dX4_dropTrace_24 : decode cX4_dropTrace 24 = .ok (.isub, 1) := by decide +kernel
theorem dX4_dropTrace_25 : decode cX4_dropTrace 25 = .ok (.putfield 38, 3) := by decide +kernel
theorem dX4_dropTrace_28 : decode cX4_dropTrace 28 = .ok (.aload_n 0, 1) := by decide +kernel
theorem dX4_dropTrace_29 : decode cX4_dropTrace 29 = .ok (.iconst 0, 1) := by decide +kernel
theorem dX4_dropTrace_30 : decode cX4_dropTrace 30 = .ok (.putfield 55, 3) := by decide +kernel
theorem dX4_dropTrace_33 : decode cX4_dropTrace 33 = .ok (.aload_n 0, 1) := by decide +kernel
theorem dX4_dropTrace_34 : decode cX4_dropTrace 34 = .ok (.getfield 38, 3) := by decide +kernel
theorem dX4_dropTrace_37 : decode cX4_dropTrace 37 = .ok (.ireturn, 1) := by decide +kernel
theorem dX4_traceCount_0 : decode cX4_traceCount 0 = .ok (.aload_n 0, 1) := by decide +kernel
theorem dX4_traceCount_1 : decode cX4_traceCount 1 = .ok (.iconst 0, 1) := by decide +kernel
theorem dX4_traceCount_2 : decode cX4_traceCount 2 = .ok (.putfield 34, 3) := by decide +kernel
theorem dX4_traceCount_5 : decode cX4_traceCount 5 = .ok (.aload_n 0, 1) := by decide +kernel
theorem dX4_traceCount_6 : decode cX4_traceCount 6 = .ok (.getfield 38, 3) := by decide +kernel
theorem dX4_traceCount_9 : decode cX4_traceCount 9 = .ok (.ireturn, 1) := by decide +kernel
theorem dX4_length_0 : decode cX4_length 0 = .ok (.aload_n 0, 1) := by decide +kernel
theorem dX4_length_1 : decode cX4_length 1 = .ok (.iconst 0, 1) := by decide +kernel
theorem dX4_length_2 : decode cX4_length 2 = .ok (.putfield 34, 3) := by decide +kernel
theorem dX4_length_5 : decode cX4_length 5 = .ok (.aload_n 0, 1) := by decide +kernel
theorem dX4_length_6 : decode cX4_length 6 = .ok (.iload_n 1, 1) := by decide +kernel
theorem dX4_length_7 : decode cX4_length 7 = .ok (.invokevirtual 59, 3) := by decide +kernel
theorem dX4_length_10 : decode cX4_length 10 = .ok (.ifCond .eq 12, 3) := by decide +kernel
theorem dX4_length_13 : decode cX4_length 13 = .ok (.aload_n 0, 1) := by decide +kernel
theorem dX4_length_14 : decode cX4_length 14 = .ok (.getfield 16, 3) := by decide +kernel
theorem dX4_length_17 : decode cX4_length 17 = .ok (.iload_n 1, 1) := by decide +kernel
theorem dX4_length_18 : decode cX4_length 18 = .ok (.iaload, 1) := by decide +kernel
theorem dX4_length_19 : decode cX4_length 19 = .ok (.goto 8, 3) := by decide +kernel
theorem dX4_length_22 : decode cX4_length 22 = .ok (.aload_n 0, 1) := by decide +kernel
theorem dX4_length_23 : decode cX4_length 23 = .ok (.iconst 1, 1) := by decide +kernel
theorem dX4_length_24 : decode cX4_length 24 = .ok (.invokevirtual 45, 3) := by decide +kernel
theorem dX4_length_27 : decode cX4_length 27 = .ok (.ireturn, 1) := by decide +kernel
theorem dX4_labelAt_0 : decode cX4_labelAt 0 = .ok (.aload_n 0, 1) := by decide +kernel
theorem dX4_labelAt_1 : decode cX4_labelAt 1 = .ok (.iconst 0, 1) := by decide +kernel
theorem dX4_labelAt_2 : decode cX4_labelAt 2 = .ok (.putfield 34, 3) := by decide +kernel
theorem dX4_labelAt_5 : decode cX4_labelAt 5 = .ok (.aload_n 0, 1) := by decide +kernel
theorem dX4_labelAt_6 : decode cX4_labelAt 6 = .ok (.iload_n 1, 1) := by decide +kernel
theorem dX4_labelAt_7 : decode cX4_labelAt 7 = .ok (.invokevirtual 59, 3) := by decide +kernel
theorem dX4_labelAt_10 : decode cX4_labelAt 10 = .ok (.ifCond .eq 31, 3) := by decide +kernel
theorem dX4_labelAt_13 : decode cX4_labelAt 13 = .ok (.iload_n 2, 1) := by decide +kernel
theorem dX4_labelAt_14 : decode cX4_labelAt 14 = .ok (.ifCond .lt 27, 3) := by decide +kernel
theorem dX4_labelAt_17 : decode cX4_labelAt 17 = .ok (.iload_n 2, 1) := by decide +kernel
theorem dX4_labelAt_18 : decode cX4_labelAt 18 = .ok (.aload_n 0, 1) := by decide +kernel
theorem dX4_labelAt_19 : decode cX4_labelAt 19 = .ok (.getfield 16, 3) := by decide +kernel
theorem dX4_labelAt_22 : decode cX4_labelAt 22 = .ok (.iload_n 1, 1) := by decide +kernel
theorem dX4_labelAt_23 : decode cX4_labelAt 23 = .ok (.iaload, 1) := by decide +kernel
theorem dX4_labelAt_24 : decode cX4_labelAt 24 = .ok (.if_icmp .ge 17, 3) := by decide +kernel
theorem dX4_labelAt_27 : decode cX4_labelAt 27 = .ok (.aload_n 0, 1) := by decide +kernel
theorem dX4_labelAt_28 : decode cX4_labelAt 28 = .ok (.getfield 19, 3) := by decide +kernel
theorem dX4_labelAt_31 : decode cX4_labelAt 31 = .ok (.bipush 12, 2) := by decide +kernel
theorem dX4_labelAt_33 : decode cX4_labelAt 33 = .ok (.iload_n 1, 1) := by decide +kernel
theorem dX4_labelAt_34 : decode cX4_labelAt 34 = .ok (.imul, 1) := by decide +kernel
theorem dX4_labelAt_35 : decode cX4_labelAt 35 = .ok (.iload_n 2, 1) := by decide +kernel
theorem dX4_labelAt_36 : decode cX4_labelAt 36 = .ok (.iadd, 1) := by decide +kernel
theorem dX4_labelAt_37 : decode cX4_labelAt 37 = .ok (.iaload, 1) := by decide +kernel
theorem dX4_labelAt_38 : decode cX4_labelAt 38 = .ok (.goto 8, 3) := by decide +kernel
theorem dX4_labelAt_41 : decode cX4_labelAt 41 = .ok (.aload_n 0, 1) := by decide +kernel
theorem dX4_labelAt_42 : decode cX4_labelAt 42 = .ok (.iconst 1, 1) := by decide +kernel
theorem dX4_labelAt_43 : decode cX4_labelAt 43 = .ok (.invokevirtual 45, 3) := by decide +kernel
theorem dX4_labelAt_46 : decode cX4_labelAt 46 = .ok (.ireturn, 1) := by decide +kernel
theorem dX4_labels_0 : decode cX4_labels 0 = .ok (.aload_n 0, 1) := by decide +kernel
theorem dX4_labels_1 : decode cX4_labels 1 = .ok (.iconst 0, 1) := by decide +kernel
theorem dX4_labels_2 : decode cX4_labels 2 = .ok (.putfield 34, 3) := by decide +kernel
theorem dX4_labels_5 : decode cX4_labels 5 = .ok (.iconst 0, 1) := by decide +kernel
theorem dX4_labels_6 : decode cX4_labels 6 = .ok (.istore_n 1, 1) := by decide +kernel
theorem dX4_labels_7 : decode cX4_labels 7 = .ok (.iconst 0, 1) := by decide +kernel
theorem dX4_labels_8 : decode cX4_labels 8 = .ok (.istore_n 2, 1) := by decide +kernel
theorem dX4_labels_9 : decode cX4_labels 9 = .ok (.iload_n 2, 1) := by decide +kernel
theorem dX4_labels_10 : decode cX4_labels 10 = .ok (.aload_n 0, 1) := by decide +kernel
theorem dX4_labels_11 : decode cX4_labels 11 = .ok (.getfield 38, 3) := by decide +kernel
theorem dX4_labels_14 : decode cX4_labels 14 = .ok (.if_icmp .ge 52, 3) := by decide +kernel
theorem dX4_labels_17 : decode cX4_labels 17 = .ok (.iconst 0, 1) := by decide +kernel
theorem dX4_labels_18 : decode cX4_labels 18 = .ok (.istore_n 3, 1) := by decide +kernel
theorem dX4_labels_19 : decode cX4_labels 19 = .ok (.iload_n 3, 1) := by decide +kernel
theorem dX4_labels_20 : decode cX4_labels 20 = .ok (.aload_n 0, 1) := by decide +kernel
theorem dX4_labels_21 : decode cX4_labels 21 = .ok (.getfield 16, 3) := by decide +kernel
theorem dX4_labels_24 : decode cX4_labels 24 = .ok (.iload_n 2, 1) := by decide +kernel
theorem dX4_labels_25 : decode cX4_labels 25 = .ok (.iaload, 1) := by decide +kernel
theorem dX4_labels_26 : decode cX4_labels 26 = .ok (.if_icmp .ge 34, 3) := by decide +kernel
theorem dX4_labels_29 : decode cX4_labels 29 = .ok (.aload_n 0, 1) := by decide +kernel
theorem dX4_labels_30 : decode cX4_labels 30 = .ok (.getfield 13, 3) := by decide +kernel
theorem dX4_labels_33 : decode cX4_labels 33 = .ok (.iload_n 2, 1) := by decide +kernel
theorem dX4_labels_34 : decode cX4_labels 34 = .ok (.iaload, 1) := by decide +kernel
theorem dX4_labels_35 : decode cX4_labels 35 = .ok (.ifCond .le 19, 3) := by decide +kernel
theorem dX4_labels_38 : decode cX4_labels 38 = .ok (.iload_n 1, 1) := by decide +kernel
theorem dX4_labels_39 : decode cX4_labels 39 = .ok (.iconst 1, 1) := by decide +kernel
theorem dX4_labels_40 : decode cX4_labels 40 = .ok (.aload_n 0, 1) := by decide +kernel
theorem dX4_labels_41 : decode cX4_labels 41 = .ok (.getfield 19, 3) := by decide +kernel
theorem dX4_labels_44 : decode cX4_labels 44 = .ok (.bipush 12, 2) := by decide +kernel
theorem dX4_labels_46 : decode cX4_labels 46 = .ok (.iload_n 2, 1) := by decide +kernel
theorem dX4_labels_47 : decode cX4_labels 47 = .ok (.imul, 1) := by decide +kernel
theorem dX4_labels_48 : decode cX4_labels 48 = .ok (.iload_n 3, 1) := by decide +kernel
theorem dX4_labels_49 : decode cX4_labels 49 = .ok (.iadd, 1) := by decide +kernel
theorem dX4_labels_50 : decode cX4_labels 50 = .ok (.iaload, 1) := by decide +kernel
theorem dX4_labels_51 : decode cX4_labels 51 = .ok (.ishl, 1) := by decide +kernel
theorem dX4_labels_52 : decode cX4_labels 52 = .ok (.ior, 1) := by decide +kernel
theorem dX4_labels_53 : decode cX4_labels 53 = .ok (.istore_n 1, 1) := by decide +kernel
theorem dX4_labels_54 : decode cX4_labels 54 = .ok (.iinc 3 1, 3) := by decide +kernel
theorem dX4_labels_57 : decode cX4_labels 57 = .ok (.goto (-38), 3) := by decide +kernel
theorem dX4_labels_60 : decode cX4_labels 60 = .ok (.iinc 2 1, 3) := by decide +kernel
theorem dX4_labels_63 : decode cX4_labels 63 = .ok (.goto (-54), 3) := by decide +kernel
theorem dX4_labels_66 : decode cX4_labels 66 = .ok (.iload_n 1, 1) := by decide +kernel
theorem dX4_labels_67 : decode cX4_labels 67 = .ok (.ireturn, 1) := by decide +kernel
theorem dX4_countOf_0 : decode cX4_countOf 0 = .ok (.iconst 0, 1) := by decide +kernel
theorem dX4_countOf_1 : decode cX4_countOf 1 = .ok (.istore_n 3, 1) := by decide +kernel
theorem dX4_countOf_2 : decode cX4_countOf 2 = .ok (.iconst 0, 1) := by decide +kernel
theorem dX4_countOf_3 : decode cX4_countOf 3 = .ok (.istore 4, 2) := by decide +kernel
theorem dX4_countOf_5 : decode cX4_countOf 5 = .ok (.iload 4, 2) := by decide +kernel
theorem dX4_countOf_7 : decode cX4_countOf 7 = .ok (.aload_n 0, 1) := by decide +kernel
theorem dX4_countOf_8 : decode cX4_countOf 8 = .ok (.getfield 38, 3) := by decide +kernel
theorem dX4_countOf_11 : decode cX4_countOf 11 = .ok (.if_icmp .ge 81, 3) := by decide +kernel
theorem dX4_countOf_14 : decode cX4_countOf 14 = .ok (.bipush 12, 2) := by decide +kernel
theorem dX4_countOf_16 : decode cX4_countOf 16 = .ok (.iload 4, 2) := by decide +kernel
theorem dX4_countOf_18 : decode cX4_countOf 18 = .ok (.imul, 1) := by decide +kernel
theorem dX4_countOf_19 : decode cX4_countOf 19 = .ok (.istore 5, 2) := by decide +kernel
theorem dX4_countOf_21 : decode cX4_countOf 21 = .ok (.iconst 1, 1) := by decide +kernel
theorem dX4_countOf_22 : decode cX4_countOf 22 = .ok (.istore 6, 2) := by decide +kernel
theorem dX4_countOf_24 : decode cX4_countOf 24 = .ok (.iload 6, 2) := by decide +kernel
theorem dX4_countOf_26 : decode cX4_countOf 26 = .ok (.aload_n 0, 1) := by decide +kernel
theorem dX4_countOf_27 : decode cX4_countOf 27 = .ok (.getfield 16, 3) := by decide +kernel
theorem dX4_countOf_30 : decode cX4_countOf 30 = .ok (.iload 4, 2) := by decide +kernel
theorem dX4_countOf_32 : decode cX4_countOf 32 = .ok (.iaload, 1) := by decide +kernel
theorem dX4_countOf_33 : decode cX4_countOf 33 = .ok (.if_icmp .ge 53, 3) := by decide +kernel
theorem dX4_countOf_36 : decode cX4_countOf 36 = .ok (.iload_n 3, 1) := by decide +kernel
theorem dX4_countOf_37 : decode cX4_countOf 37 = .ok (.aload_n 0, 1) := by decide +kernel
theorem dX4_countOf_38 : decode cX4_countOf 38 = .ok (.getfield 19, 3) := by decide +kernel
theorem dX4_countOf_41 : decode cX4_countOf 41 = .ok (.iload 5, 2) := by decide +kernel
theorem dX4_countOf_43 : decode cX4_countOf 43 = .ok (.iload 6, 2) := by decide +kernel
theorem dX4_countOf_45 : decode cX4_countOf 45 = .ok (.iadd, 1) := by decide +kernel
theorem dX4_countOf_46 : decode cX4_countOf 46 = .ok (.iconst 1, 1) := by decide +kernel
theorem dX4_countOf_47 : decode cX4_countOf 47 = .ok (.isub, 1) := by decide +kernel
theorem dX4_countOf_48 : decode cX4_countOf 48 = .ok (.iaload, 1) := by decide +kernel
theorem dX4_countOf_49 : decode cX4_countOf 49 = .ok (.iload_n 1, 1) := by decide +kernel
theorem dX4_countOf_50 : decode cX4_countOf 50 = .ok (.if_icmp .ne 27, 3) := by decide +kernel
theorem dX4_countOf_53 : decode cX4_countOf 53 = .ok (.aload_n 0, 1) := by decide +kernel
theorem dX4_countOf_54 : decode cX4_countOf 54 = .ok (.getfield 19, 3) := by decide +kernel
theorem dX4_countOf_57 : decode cX4_countOf 57 = .ok (.iload 5, 2) := by decide +kernel
theorem dX4_countOf_59 : decode cX4_countOf 59 = .ok (.iload 6, 2) := by decide +kernel
theorem dX4_countOf_61 : decode cX4_countOf 61 = .ok (.iadd, 1) := by decide +kernel
theorem dX4_countOf_62 : decode cX4_countOf 62 = .ok (.iaload, 1) := by decide +kernel
theorem dX4_countOf_63 : decode cX4_countOf 63 = .ok (.iload_n 2, 1) := by decide +kernel
theorem dX4_countOf_64 : decode cX4_countOf 64 = .ok (.if_icmp .ne 13, 3) := by decide +kernel
theorem dX4_countOf_67 : decode cX4_countOf 67 = .ok (.aload_n 0, 1) := by decide +kernel
theorem dX4_countOf_68 : decode cX4_countOf 68 = .ok (.getfield 13, 3) := by decide +kernel
theorem dX4_countOf_71 : decode cX4_countOf 71 = .ok (.iload 4, 2) := by decide +kernel
theorem dX4_countOf_73 : decode cX4_countOf 73 = .ok (.iaload, 1) := by decide +kernel
theorem dX4_countOf_74 : decode cX4_countOf 74 = .ok (.goto 4, 3) := by decide +kernel
theorem dX4_countOf_77 : decode cX4_countOf 77 = .ok (.iconst 0, 1) := by decide +kernel
theorem dX4_countOf_78 : decode cX4_countOf 78 = .ok (.iadd, 1) := by decide +kernel
theorem dX4_countOf_79 : decode cX4_countOf 79 = .ok (.istore_n 3, 1) := by decide +kernel
theorem dX4_countOf_80 : decode cX4_countOf 80 = .ok (.iinc 6 1, 3) := by decide +kernel
theorem dX4_countOf_83 : decode cX4_countOf 83 = .ok (.goto (-59), 3) := by decide +kernel
theorem dX4_countOf_86 : decode cX4_countOf 86 = .ok (.iinc 4 1, 3) := by decide +kernel
theorem dX4_countOf_89 : decode cX4_countOf 89 = .ok (.goto (-84), 3) := by decide +kernel
theorem dX4_countOf_92 : decode cX4_countOf 92 = .ok (.iload_n 3, 1) := by decide +kernel
theorem dX4_countOf_93 : decode cX4_countOf 93 = .ok (.ireturn, 1) := by decide +kernel
theorem dX4_follows_0 : decode cX4_follows 0 = .ok (.aload_n 0, 1) := by decide +kernel
theorem dX4_follows_1 : decode cX4_follows 1 = .ok (.iconst 0, 1) := by decide +kernel
theorem dX4_follows_2 : decode cX4_follows 2 = .ok (.putfield 34, 3) := by decide +kernel
theorem dX4_follows_5 : decode cX4_follows 5 = .ok (.iload_n 1, 1) := by decide +kernel
theorem dX4_follows_6 : decode cX4_follows 6 = .ok (.invokestatic 41, 3) := by decide +kernel
theorem dX4_follows_9 : decode cX4_follows 9 = .ok (.ifCond .eq 19, 3) := by decide +kernel
theorem dX4_follows_12 : decode cX4_follows 12 = .ok (.iload_n 2, 1) := by decide +kernel
theorem dX4_follows_13 : decode cX4_follows 13 = .ok (.invokestatic 41, 3) := by decide +kernel
theorem dX4_follows_16 : decode cX4_follows 16 = .ok (.ifCond .eq 12, 3) := by decide +kernel
theorem dX4_follows_19 : decode cX4_follows 19 = .ok (.aload_n 0, 1) := by decide +kernel
theorem dX4_follows_20 : decode cX4_follows 20 = .ok (.iload_n 1, 1) := by decide +kernel
theorem dX4_follows_21 : decode cX4_follows 21 = .ok (.iload_n 2, 1) := by decide +kernel
theorem dX4_follows_22 : decode cX4_follows 22 = .ok (.invokevirtual 62, 3) := by decide +kernel
theorem dX4_follows_25 : decode cX4_follows 25 = .ok (.goto 8, 3) := by decide +kernel
theorem dX4_follows_28 : decode cX4_follows 28 = .ok (.aload_n 0, 1) := by decide +kernel
theorem dX4_follows_29 : decode cX4_follows 29 = .ok (.iconst 1, 1) := by decide +kernel
theorem dX4_follows_30 : decode cX4_follows 30 = .ok (.invokevirtual 45, 3) := by decide +kernel
theorem dX4_follows_33 : decode cX4_follows 33 = .ok (.ireturn, 1) := by decide +kernel
theorem dX4_edges_0 : decode cX4_edges 0 = .ok (.aload_n 0, 1) := by decide +kernel
theorem dX4_edges_1 : decode cX4_edges 1 = .ok (.iconst 0, 1) := by decide +kernel
theorem dX4_edges_2 : decode cX4_edges 2 = .ok (.putfield 34, 3) := by decide +kernel
theorem dX4_edges_5 : decode cX4_edges 5 = .ok (.iconst 0, 1) := by decide +kernel
theorem dX4_edges_6 : decode cX4_edges 6 = .ok (.istore_n 2, 1) := by decide +kernel
theorem dX4_edges_7 : decode cX4_edges 7 = .ok (.iconst 0, 1) := by decide +kernel
theorem dX4_edges_8 : decode cX4_edges 8 = .ok (.istore_n 3, 1) := by decide +kernel
theorem dX4_edges_9 : decode cX4_edges 9 = .ok (.iload_n 3, 1) := by decide +kernel
theorem dX4_edges_10 : decode cX4_edges 10 = .ok (.aload_n 0, 1) := by decide +kernel
theorem dX4_edges_11 : decode cX4_edges 11 = .ok (.getfield 38, 3) := by decide +kernel
theorem dX4_edges_14 : decode cX4_edges 14 = .ok (.if_icmp .ge 58, 3) := by decide +kernel
theorem dX4_edges_17 : decode cX4_edges 17 = .ok (.aload_n 0, 1) := by decide +kernel
theorem dX4_edges_18 : decode cX4_edges 18 = .ok (.getfield 13, 3) := by decide +kernel
theorem dX4_edges_21 : decode cX4_edges 21 = .ok (.iload_n 3, 1) := by decide +kernel
theorem dX4_edges_22 : decode cX4_edges 22 = .ok (.iaload, 1) := by decide +kernel
theorem dX4_edges_23 : decode cX4_edges 23 = .ok (.ifCond .le 43, 3) := by decide +kernel
theorem dX4_edges_26 : decode cX4_edges 26 = .ok (.aload_n 0, 1) := by decide +kernel
theorem dX4_edges_27 : decode cX4_edges 27 = .ok (.getfield 16, 3) := by decide +kernel
theorem dX4_edges_30 : decode cX4_edges 30 = .ok (.iload_n 3, 1) := by decide +kernel
theorem dX4_edges_31 : decode cX4_edges 31 = .ok (.iaload, 1) := by decide +kernel
theorem dX4_edges_32 : decode cX4_edges 32 = .ok (.ifCond .le 34, 3) := by decide +kernel
theorem dX4_edges_35 : decode cX4_edges 35 = .ok (.iload_n 2, 1) := by decide +kernel
theorem dX4_edges_36 : decode cX4_edges 36 = .ok (.iconst 1, 1) := by decide +kernel
theorem dX4_edges_37 : decode cX4_edges 37 = .ok (.aload_n 0, 1) := by decide +kernel
theorem dX4_edges_38 : decode cX4_edges 38 = .ok (.getfield 19, 3) := by decide +kernel
theorem dX4_edges_41 : decode cX4_edges 41 = .ok (.bipush 12, 2) := by decide +kernel
theorem dX4_edges_43 : decode cX4_edges 43 = .ok (.iload_n 3, 1) := by decide +kernel
theorem dX4_edges_44 : decode cX4_edges 44 = .ok (.imul, 1) := by decide +kernel
theorem dX4_edges_45 : decode cX4_edges 45 = .ok (.iload_n 1, 1) := by decide +kernel
theorem dX4_edges_46 : decode cX4_edges 46 = .ok (.ifCond .eq 14, 3) := by decide +kernel
theorem dX4_edges_49 : decode cX4_edges 49 = .ok (.aload_n 0, 1) := by decide +kernel
theorem dX4_edges_50 : decode cX4_edges 50 = .ok (.getfield 16, 3) := by decide +kernel
theorem dX4_edges_53 : decode cX4_edges 53 = .ok (.iload_n 3, 1) := by decide +kernel
theorem dX4_edges_54 : decode cX4_edges 54 = .ok (.iaload, 1) := by decide +kernel
theorem dX4_edges_55 : decode cX4_edges 55 = .ok (.iconst 1, 1) := by decide +kernel
theorem dX4_edges_56 : decode cX4_edges 56 = .ok (.isub, 1) := by decide +kernel
theorem dX4_edges_57 : decode cX4_edges 57 = .ok (.goto 4, 3) := by decide +kernel
theorem dX4_edges_60 : decode cX4_edges 60 = .ok (.iconst 0, 1) := by decide +kernel
theorem dX4_edges_61 : decode cX4_edges 61 = .ok (.iadd, 1) := by decide +kernel
theorem dX4_edges_62 : decode cX4_edges 62 = .ok (.iaload, 1) := by decide +kernel
theorem dX4_edges_63 : decode cX4_edges 63 = .ok (.ishl, 1) := by decide +kernel
theorem dX4_edges_64 : decode cX4_edges 64 = .ok (.ior, 1) := by decide +kernel
theorem dX4_edges_65 : decode cX4_edges 65 = .ok (.istore_n 2, 1) := by decide +kernel
theorem dX4_edges_66 : decode cX4_edges 66 = .ok (.iinc 3 1, 3) := by decide +kernel
theorem dX4_edges_69 : decode cX4_edges 69 = .ok (.goto (-60), 3) := by decide +kernel
theorem dX4_edges_72 : decode cX4_edges 72 = .ok (.iload_n 2, 1) := by decide +kernel
theorem dX4_edges_73 : decode cX4_edges 73 = .ok (.ireturn, 1) := by decide +kernel
theorem dX4_relation_0 : decode cX4_relation 0 = .ok (.aload_n 0, 1) := by decide +kernel
theorem dX4_relation_1 : decode cX4_relation 1 = .ok (.iconst 0, 1) := by decide +kernel
theorem dX4_relation_2 : decode cX4_relation 2 = .ok (.putfield 34, 3) := by decide +kernel
theorem dX4_relation_5 : decode cX4_relation 5 = .ok (.iload_n 1, 1) := by decide +kernel
theorem dX4_relation_6 : decode cX4_relation 6 = .ok (.invokestatic 41, 3) := by decide +kernel
theorem dX4_relation_9 : decode cX4_relation 9 = .ok (.ifCond .eq 10, 3) := by decide +kernel
theorem dX4_relation_12 : decode cX4_relation 12 = .ok (.iload_n 2, 1) := by decide +kernel
theorem dX4_relation_13 : decode cX4_relation 13 = .ok (.invokestatic 41, 3) := by decide +kernel
theorem dX4_relation_16 : decode cX4_relation 16 = .ok (.ifCond .ne 9, 3) := by decide +kernel
theorem dX4_relation_19 : decode cX4_relation 19 = .ok (.aload_n 0, 1) := by decide +kernel
theorem dX4_relation_20 : decode cX4_relation 20 = .ok (.iconst 1, 1) := by decide +kernel
theorem dX4_relation_21 : decode cX4_relation 21 = .ok (.invokevirtual 45, 3) := by decide +kernel
theorem dX4_relation_24 : decode cX4_relation 24 = .ok (.ireturn, 1) := by decide +kernel
theorem dX4_relation_25 : decode cX4_relation 25 = .ok (.aload_n 0, 1) := by decide +kernel
theorem dX4_relation_26 : decode cX4_relation 26 = .ok (.iload_n 1, 1) := by decide +kernel
theorem dX4_relation_27 : decode cX4_relation 27 = .ok (.iload_n 2, 1) := by decide +kernel
theorem dX4_relation_28 : decode cX4_relation 28 = .ok (.invokevirtual 62, 3) := by decide +kernel
theorem dX4_relation_31 : decode cX4_relation 31 = .ok (.ifCond .le 7, 3) := by decide +kernel
theorem dX4_relation_34 : decode cX4_relation 34 = .ok (.iconst 1, 1) := by decide +kernel
theorem dX4_relation_35 : decode cX4_relation 35 = .ok (.goto 4, 3) := by decide +kernel
theorem dX4_relation_38 : decode cX4_relation 38 = .ok (.iconst 0, 1) := by decide +kernel
theorem dX4_relation_39 : decode cX4_relation 39 = .ok (.aload_n 0, 1) := by decide +kernel
theorem dX4_relation_40 : decode cX4_relation 40 = .ok (.iload_n 2, 1) := by decide +kernel
theorem dX4_relation_41 : decode cX4_relation 41 = .ok (.iload_n 1, 1) := by decide +kernel
theorem dX4_relation_42 : decode cX4_relation 42 = .ok (.invokevirtual 62, 3) := by decide +kernel
theorem dX4_relation_45 : decode cX4_relation 45 = .ok (.ifCond .le 7, 3) := by decide +kernel
theorem dX4_relation_48 : decode cX4_relation 48 = .ok (.iconst 2, 1) := by decide +kernel
theorem dX4_relation_49 : decode cX4_relation 49 = .ok (.goto 4, 3) := by decide +kernel
theorem dX4_relation_52 : decode cX4_relation 52 = .ok (.iconst 0, 1) := by decide +kernel
theorem dX4_relation_53 : decode cX4_relation 53 = .ok (.iadd, 1) := by decide +kernel
theorem dX4_relation_54 : decode cX4_relation 54 = .ok (.ireturn, 1) := by decide +kernel
theorem dX4_leads_0 : decode cX4_leads 0 = .ok (.aload_n 0, 1) := by decide +kernel
theorem dX4_leads_1 : decode cX4_leads 1 = .ok (.iload_n 1, 1) := by decide +kernel
theorem dX4_leads_2 : decode cX4_leads 2 = .ok (.invokestatic 41, 3) := by decide +kernel
theorem dX4_leads_5 : decode cX4_leads 5 = .ok (.ifCond .eq 14, 3) := by decide +kernel
theorem dX4_leads_8 : decode cX4_leads 8 = .ok (.iload_n 2, 1) := by decide +kernel
theorem dX4_leads_9 : decode cX4_leads 9 = .ok (.invokestatic 41, 3) := by decide +kernel
theorem dX4_leads_12 : decode cX4_leads 12 = .ok (.ifCond .eq 7, 3) := by decide +kernel
theorem dX4_leads_15 : decode cX4_leads 15 = .ok (.iconst 0, 1) := by decide +kernel
theorem dX4_leads_16 : decode cX4_leads 16 = .ok (.goto 4, 3) := by decide +kernel
theorem dX4_leads_19 : decode cX4_leads 19 = .ok (.iconst 1, 1) := by decide +kernel
theorem dX4_leads_20 : decode cX4_leads 20 = .ok (.putfield 34, 3) := by decide +kernel
theorem dX4_leads_23 : decode cX4_leads 23 = .ok (.aload_n 0, 1) := by decide +kernel
theorem dX4_leads_24 : decode cX4_leads 24 = .ok (.getfield 34, 3) := by decide +kernel
theorem dX4_leads_27 : decode cX4_leads 27 = .ok (.ifCond .eq 5, 3) := by decide +kernel
theorem dX4_leads_30 : decode cX4_leads 30 = .ok (.iconst 0, 1) := by decide +kernel
theorem dX4_leads_31 : decode cX4_leads 31 = .ok (.ireturn, 1) := by decide +kernel
theorem dX4_leads_32 : decode cX4_leads 32 = .ok (.iconst 0, 1) := by decide +kernel
theorem dX4_leads_33 : decode cX4_leads 33 = .ok (.istore_n 3, 1) := by decide +kernel
theorem dX4_leads_34 : decode cX4_leads 34 = .ok (.iconst 0, 1) := by decide +kernel
theorem dX4_leads_35 : decode cX4_leads 35 = .ok (.istore 4, 2) := by decide +kernel
theorem dX4_leads_37 : decode cX4_leads 37 = .ok (.iload 4, 2) := by decide +kernel
theorem dX4_leads_39 : decode cX4_leads 39 = .ok (.bipush 8, 2) := by decide +kernel
theorem dX4_leads_41 : decode cX4_leads 41 = .ok (.if_icmp .ge 26, 3) := by decide +kernel
theorem dX4_leads_44 : decode cX4_leads 44 = .ok (.aload_n 0, 1) := by decide +kernel
theorem dX4_leads_45 : decode cX4_leads 45 = .ok (.iload_n 1, 1) := by decide +kernel
theorem dX4_leads_46 : decode cX4_leads 46 = .ok (.iload 4, 2) := by decide +kernel
theorem dX4_leads_48 : decode cX4_leads 48 = .ok (.invokevirtual 62, 3) := by decide +kernel
theorem dX4_leads_51 : decode cX4_leads 51 = .ok (.ifCond .le 10, 3) := by decide +kernel
theorem dX4_leads_54 : decode cX4_leads 54 = .ok (.iload_n 3, 1) := by decide +kernel
theorem dX4_leads_55 : decode cX4_leads 55 = .ok (.iconst 1, 1) := by decide +kernel
theorem dX4_leads_56 : decode cX4_leads 56 = .ok (.iload 4, 2) := by decide +kernel
theorem dX4_leads_58 : decode cX4_leads 58 = .ok (.ishl, 1) := by decide +kernel
theorem dX4_leads_59 : decode cX4_leads 59 = .ok (.ior, 1) := by decide +kernel
theorem dX4_leads_60 : decode cX4_leads 60 = .ok (.istore_n 3, 1) := by decide +kernel
theorem dX4_leads_61 : decode cX4_leads 61 = .ok (.iinc 4 1, 3) := by decide +kernel
theorem dX4_leads_64 : decode cX4_leads 64 = .ok (.goto (-27), 3) := by decide +kernel
theorem dX4_leads_67 : decode cX4_leads 67 = .ok (.iconst 0, 1) := by decide +kernel
theorem dX4_leads_68 : decode cX4_leads 68 = .ok (.istore 4, 2) := by decide +kernel
theorem dX4_leads_70 : decode cX4_leads 70 = .ok (.iload 4, 2) := by decide +kernel
theorem dX4_leads_72 : decode cX4_leads 72 = .ok (.bipush 8, 2) := by decide +kernel
theorem dX4_leads_74 : decode cX4_leads 74 = .ok (.if_icmp .ge 68, 3) := by decide +kernel
theorem dX4_leads_77 : decode cX4_leads 77 = .ok (.iconst 0, 1) := by decide +kernel
theorem dX4_leads_78 : decode cX4_leads 78 = .ok (.istore 5, 2) := by decide +kernel
theorem dX4_leads_80 : decode cX4_leads 80 = .ok (.iload 5, 2) := by decide +kernel
theorem dX4_leads_82 : decode cX4_leads 82 = .ok (.bipush 8, 2) := by decide +kernel
theorem dX4_leads_84 : decode cX4_leads 84 = .ok (.if_icmp .ge 52, 3) := by decide +kernel
theorem dX4_leads_87 : decode cX4_leads 87 = .ok (.iconst 0, 1) := by decide +kernel
theorem dX4_leads_88 : decode cX4_leads 88 = .ok (.istore 6, 2) := by decide +kernel
theorem dX4_leads_90 : decode cX4_leads 90 = .ok (.iload 6, 2) := by decide +kernel
theorem dX4_leads_92 : decode cX4_leads 92 = .ok (.bipush 8, 2) := by decide +kernel
theorem dX4_leads_94 : decode cX4_leads 94 = .ok (.if_icmp .ge 36, 3) := by decide +kernel
theorem dX4_leads_97 : decode cX4_leads 97 = .ok (.iload_n 3, 1) := by decide +kernel
theorem dX4_leads_98 : decode cX4_leads 98 = .ok (.iload 5, 2) := by decide +kernel
theorem dX4_leads_100 : decode cX4_leads 100 = .ok (.invokestatic 66, 3) := by decide +kernel
theorem dX4_leads_103 : decode cX4_leads 103 = .ok (.ifCond .eq 21, 3) := by decide +kernel
theorem dX4_leads_106 : decode cX4_leads 106 = .ok (.aload_n 0, 1) := by decide +kernel
theorem dX4_leads_107 : decode cX4_leads 107 = .ok (.iload 5, 2) := by decide +kernel
theorem dX4_leads_109 : decode cX4_leads 109 = .ok (.iload 6, 2) := by decide +kernel
theorem dX4_leads_111 : decode cX4_leads 111 = .ok (.invokevirtual 62, 3) := by decide +kernel
theorem dX4_leads_114 : decode cX4_leads 114 = .ok (.ifCond .le 10, 3) := by decide +kernel
theorem dX4_leads_117 : decode cX4_leads 117 = .ok (.iload_n 3, 1) := by decide +kernel
theorem dX4_leads_118 : decode cX4_leads 118 = .ok (.iconst 1, 1) := by decide +kernel
theorem dX4_leads_119 : decode cX4_leads 119 = .ok (.iload 6, 2) := by decide +kernel
theorem dX4_leads_121 : decode cX4_leads 121 = .ok (.ishl, 1) := by decide +kernel
theorem dX4_leads_122 : decode cX4_leads 122 = .ok (.ior, 1) := by decide +kernel
theorem dX4_leads_123 : decode cX4_leads 123 = .ok (.istore_n 3, 1) := by decide +kernel
theorem dX4_leads_124 : decode cX4_leads 124 = .ok (.iinc 6 1, 3) := by decide +kernel
theorem dX4_leads_127 : decode cX4_leads 127 = .ok (.goto (-37), 3) := by decide +kernel
theorem dX4_leads_130 : decode cX4_leads 130 = .ok (.iinc 5 1, 3) := by decide +kernel
theorem dX4_leads_133 : decode cX4_leads 133 = .ok (.goto (-53), 3) := by decide +kernel
theorem dX4_leads_136 : decode cX4_leads 136 = .ok (.iinc 4 1, 3) := by decide +kernel
theorem dX4_leads_139 : decode cX4_leads 139 = .ok (.goto (-69), 3) := by decide +kernel
theorem dX4_leads_142 : decode cX4_leads 142 = .ok (.iload_n 3, 1) := by decide +kernel
theorem dX4_leads_143 : decode cX4_leads 143 = .ok (.iload_n 2, 1) := by decide +kernel
theorem dX4_leads_144 : decode cX4_leads 144 = .ok (.invokestatic 66, 3) := by decide +kernel
theorem dX4_leads_147 : decode cX4_leads 147 = .ok (.ireturn, 1) := by decide +kernel
theorem dX4_variants_0 : decode cX4_variants 0 = .ok (.aload_n 0, 1) := by decide +kernel
theorem dX4_variants_1 : decode cX4_variants 1 = .ok (.iconst 0, 1) := by decide +kernel
theorem dX4_variants_2 : decode cX4_variants 2 = .ok (.putfield 34, 3) := by decide +kernel
theorem dX4_variants_5 : decode cX4_variants 5 = .ok (.iconst 0, 1) := by decide +kernel
theorem dX4_variants_6 : decode cX4_variants 6 = .ok (.istore_n 1, 1) := by decide +kernel
theorem dX4_variants_7 : decode cX4_variants 7 = .ok (.iconst 0, 1) := by decide +kernel
theorem dX4_variants_8 : decode cX4_variants 8 = .ok (.istore_n 2, 1) := by decide +kernel
theorem dX4_variants_9 : decode cX4_variants 9 = .ok (.iload_n 2, 1) := by decide +kernel
theorem dX4_variants_10 : decode cX4_variants 10 = .ok (.aload_n 0, 1) := by decide +kernel
theorem dX4_variants_11 : decode cX4_variants 11 = .ok (.getfield 38, 3) := by decide +kernel
theorem dX4_variants_14 : decode cX4_variants 14 = .ok (.if_icmp .ge 159, 3) := by decide +kernel
theorem dX4_variants_17 : decode cX4_variants 17 = .ok (.aload_n 0, 1) := by decide +kernel
theorem dX4_variants_18 : decode cX4_variants 18 = .ok (.getfield 13, 3) := by decide +kernel
theorem dX4_variants_21 : decode cX4_variants 21 = .ok (.iload_n 2, 1) := by decide +kernel
theorem dX4_variants_22 : decode cX4_variants 22 = .ok (.iaload, 1) := by decide +kernel
theorem dX4_variants_23 : decode cX4_variants 23 = .ok (.ifCond .le 7, 3) := by decide +kernel
theorem dX4_variants_26 : decode cX4_variants 26 = .ok (.iconst 1, 1) := by decide +kernel
theorem dX4_variants_27 : decode cX4_variants 27 = .ok (.goto 4, 3) := by decide +kernel
theorem dX4_variants_30 : decode cX4_variants 30 = .ok (.iconst 0, 1) := by decide +kernel
theorem dX4_variants_31 : decode cX4_variants 31 = .ok (.istore_n 3, 1) := by decide +kernel
theorem dX4_variants_32 : decode cX4_variants 32 = .ok (.iconst 0, 1) := by decide +kernel
theorem dX4_variants_33 : decode cX4_variants 33 = .ok (.istore 4, 2) := by decide +kernel
theorem dX4_variants_35 : decode cX4_variants 35 = .ok (.iload 4, 2) := by decide +kernel
theorem dX4_variants_37 : decode cX4_variants 37 = .ok (.iload_n 2, 1) := by decide +kernel
theorem dX4_variants_38 : decode cX4_variants 38 = .ok (.if_icmp .ge 117, 3) := by decide +kernel
theorem dX4_variants_41 : decode cX4_variants 41 = .ok (.iload_n 3, 1) := by decide +kernel
theorem dX4_variants_42 : decode cX4_variants 42 = .ok (.ifCond .eq 113, 3) := by decide +kernel
theorem dX4_variants_45 : decode cX4_variants 45 = .ok (.aload_n 0, 1) := by decide +kernel
theorem dX4_variants_46 : decode cX4_variants 46 = .ok (.getfield 13, 3) := by decide +kernel
theorem dX4_variants_49 : decode cX4_variants 49 = .ok (.iload 4, 2) := by decide +kernel
theorem dX4_variants_51 : decode cX4_variants 51 = .ok (.iaload, 1) := by decide +kernel
theorem dX4_variants_52 : decode cX4_variants 52 = .ok (.ifCond .le 23, 3) := by decide +kernel
theorem dX4_variants_55 : decode cX4_variants 55 = .ok (.aload_n 0, 1) := by decide +kernel
theorem dX4_variants_56 : decode cX4_variants 56 = .ok (.getfield 16, 3) := by decide +kernel
theorem dX4_variants_59 : decode cX4_variants 59 = .ok (.iload 4, 2) := by decide +kernel
theorem dX4_variants_61 : decode cX4_variants 61 = .ok (.iaload, 1) := by decide +kernel
theorem dX4_variants_62 : decode cX4_variants 62 = .ok (.aload_n 0, 1) := by decide +kernel
theorem dX4_variants_63 : decode cX4_variants 63 = .ok (.getfield 16, 3) := by decide +kernel
theorem dX4_variants_66 : decode cX4_variants 66 = .ok (.iload_n 2, 1) := by decide +kernel
theorem dX4_variants_67 : decode cX4_variants 67 = .ok (.iaload, 1) := by decide +kernel
theorem dX4_variants_68 : decode cX4_variants 68 = .ok (.if_icmp .ne 7, 3) := by decide +kernel
theorem dX4_variants_71 : decode cX4_variants 71 = .ok (.iconst 1, 1) := by decide +kernel
theorem dX4_variants_72 : decode cX4_variants 72 = .ok (.goto 4, 3) := by decide +kernel
theorem dX4_variants_75 : decode cX4_variants 75 = .ok (.iconst 0, 1) := by decide +kernel
theorem dX4_variants_76 : decode cX4_variants 76 = .ok (.istore 5, 2) := by decide +kernel
theorem dX4_variants_78 : decode cX4_variants 78 = .ok (.iconst 0, 1) := by decide +kernel
theorem dX4_variants_79 : decode cX4_variants 79 = .ok (.istore 6, 2) := by decide +kernel
theorem dX4_variants_81 : decode cX4_variants 81 = .ok (.iload 6, 2) := by decide +kernel
theorem dX4_variants_83 : decode cX4_variants 83 = .ok (.aload_n 0, 1) := by decide +kernel
theorem dX4_variants_84 : decode cX4_variants 84 = .ok (.getfield 16, 3) := by decide +kernel
theorem dX4_variants_87 : decode cX4_variants 87 = .ok (.iload_n 2, 1) := by decide +kernel
theorem dX4_variants_88 : decode cX4_variants 88 = .ok (.iaload, 1) := by decide +kernel
theorem dX4_variants_89 : decode cX4_variants 89 = .ok (.if_icmp .ge 49, 3) := by decide +kernel
theorem dX4_variants_92 : decode cX4_variants 92 = .ok (.iload 5, 2) := by decide +kernel
theorem dX4_variants_94 : decode cX4_variants 94 = .ok (.ifCond .eq 44, 3) := by decide +kernel
theorem dX4_variants_97 : decode cX4_variants 97 = .ok (.aload_n 0, 1) := by decide +kernel
theorem dX4_variants_98 : decode cX4_variants 98 = .ok (.getfield 19, 3) := by decide +kernel
theorem dX4_variants_101 : decode cX4_variants 101 = .ok (.bipush 12, 2) := by decide +kernel
theorem dX4_variants_103 : decode cX4_variants 103 = .ok (.iload 4, 2) := by decide +kernel
theorem dX4_variants_105 : decode cX4_variants 105 = .ok (.imul, 1) := by decide +kernel
theorem dX4_variants_106 : decode cX4_variants 106 = .ok (.iload 6, 2) := by decide +kernel
theorem dX4_variants_108 : decode cX4_variants 108 = .ok (.iadd, 1) := by decide +kernel
theorem dX4_variants_109 : decode cX4_variants 109 = .ok (.iaload, 1) := by decide +kernel
theorem dX4_variants_110 : decode cX4_variants 110 = .ok (.aload_n 0, 1) := by decide +kernel
theorem dX4_variants_111 : decode cX4_variants 111 = .ok (.getfield 19, 3) := by decide +kernel
theorem dX4_variants_114 : decode cX4_variants 114 = .ok (.bipush 12, 2) := by decide +kernel
theorem dX4_variants_116 : decode cX4_variants 116 = .ok (.iload_n 2, 1) := by decide +kernel
theorem dX4_variants_117 : decode cX4_variants 117 = .ok (.imul, 1) := by decide +kernel
theorem dX4_variants_118 : decode cX4_variants 118 = .ok (.iload 6, 2) := by decide +kernel
theorem dX4_variants_120 : decode cX4_variants 120 = .ok (.iadd, 1) := by decide +kernel
theorem dX4_variants_121 : decode cX4_variants 121 = .ok (.iaload, 1) := by decide +kernel
theorem dX4_variants_122 : decode cX4_variants 122 = .ok (.if_icmp .ne 7, 3) := by decide +kernel
theorem dX4_variants_125 : decode cX4_variants 125 = .ok (.iconst 1, 1) := by decide +kernel
theorem dX4_variants_126 : decode cX4_variants 126 = .ok (.goto 4, 3) := by decide +kernel
theorem dX4_variants_129 : decode cX4_variants 129 = .ok (.iconst 0, 1) := by decide +kernel
theorem dX4_variants_130 : decode cX4_variants 130 = .ok (.istore 5, 2) := by decide +kernel
theorem dX4_variants_132 : decode cX4_variants 132 = .ok (.iinc 6 1, 3) := by decide +kernel
theorem dX4_variants_135 : decode cX4_variants 135 = .ok (.goto (-54), 3) := by decide +kernel
theorem dX4_variants_138 : decode cX4_variants 138 = .ok (.iload 5, 2) := by decide +kernel
theorem dX4_variants_140 : decode cX4_variants 140 = .ok (.ifCond .ne 7, 3) := by decide +kernel
theorem dX4_variants_143 : decode cX4_variants 143 = .ok (.iconst 1, 1) := by decide +kernel
theorem dX4_variants_144 : decode cX4_variants 144 = .ok (.goto 4, 3) := by decide +kernel
theorem dX4_variants_147 : decode cX4_variants 147 = .ok (.iconst 0, 1) := by decide +kernel
theorem dX4_variants_148 : decode cX4_variants 148 = .ok (.istore_n 3, 1) := by decide +kernel
theorem dX4_variants_149 : decode cX4_variants 149 = .ok (.iinc 4 1, 3) := by decide +kernel
theorem dX4_variants_152 : decode cX4_variants 152 = .ok (.goto (-117), 3) := by decide +kernel
theorem dX4_variants_155 : decode cX4_variants 155 = .ok (.iload_n 1, 1) := by decide +kernel
theorem dX4_variants_156 : decode cX4_variants 156 = .ok (.iload_n 3, 1) := by decide +kernel
theorem dX4_variants_157 : decode cX4_variants 157 = .ok (.ifCond .eq 7, 3) := by decide +kernel
theorem dX4_variants_160 : decode cX4_variants 160 = .ok (.iconst 1, 1) := by decide +kernel
theorem dX4_variants_161 : decode cX4_variants 161 = .ok (.goto 4, 3) := by decide +kernel
theorem dX4_variants_164 : decode cX4_variants 164 = .ok (.iconst 0, 1) := by decide +kernel
theorem dX4_variants_165 : decode cX4_variants 165 = .ok (.iadd, 1) := by decide +kernel
theorem dX4_variants_166 : decode cX4_variants 166 = .ok (.istore_n 1, 1) := by decide +kernel
theorem dX4_variants_167 : decode cX4_variants 167 = .ok (.iinc 2 1, 3) := by decide +kernel
theorem dX4_variants_170 : decode cX4_variants 170 = .ok (.goto (-161), 3) := by decide +kernel
theorem dX4_variants_173 : decode cX4_variants 173 = .ok (.iload_n 1, 1) := by decide +kernel
theorem dX4_variants_174 : decode cX4_variants 174 = .ok (.ireturn, 1) := by decide +kernel
theorem dX4_labelsIn_0 : decode cX4_labelsIn 0 = .ok (.iconst 0, 1) := by decide +kernel
theorem dX4_labelsIn_1 : decode cX4_labelsIn 1 = .ok (.istore_n 1, 1) := by decide +kernel
theorem dX4_labelsIn_2 : decode cX4_labelsIn 2 = .ok (.aload_n 0, 1) := by decide +kernel
theorem dX4_labelsIn_3 : decode cX4_labelsIn 3 = .ok (.astore_n 2, 1) := by decide +kernel
theorem dX4_labelsIn_4 : decode cX4_labelsIn 4 = .ok (.aload_n 2, 1) := by decide +kernel
theorem dX4_labelsIn_5 : decode cX4_labelsIn 5 = .ok (.arraylength, 1) := by decide +kernel
theorem dX4_labelsIn_6 : decode cX4_labelsIn 6 = .ok (.istore_n 3, 1) := by decide +kernel
theorem dX4_labelsIn_7 : decode cX4_labelsIn 7 = .ok (.iconst 0, 1) := by decide +kernel
theorem dX4_labelsIn_8 : decode cX4_labelsIn 8 = .ok (.istore 4, 2) := by decide +kernel
theorem dX4_labelsIn_10 : decode cX4_labelsIn 10 = .ok (.iload 4, 2) := by decide +kernel
theorem dX4_labelsIn_12 : decode cX4_labelsIn 12 = .ok (.iload_n 3, 1) := by decide +kernel
theorem dX4_labelsIn_13 : decode cX4_labelsIn 13 = .ok (.if_icmp .ge 54, 3) := by decide +kernel
theorem dX4_labelsIn_16 : decode cX4_labelsIn 16 = .ok (.aload_n 2, 1) := by decide +kernel
theorem dX4_labelsIn_17 : decode cX4_labelsIn 17 = .ok (.iload 4, 2) := by decide +kernel
theorem dX4_labelsIn_19 : decode cX4_labelsIn 19 = .ok (.aaload, 1) := by decide +kernel
theorem dX4_labelsIn_20 : decode cX4_labelsIn 20 = .ok (.astore 5, 2) := by decide +kernel
theorem dX4_labelsIn_22 : decode cX4_labelsIn 22 = .ok (.aload 5, 2) := by decide +kernel
theorem dX4_labelsIn_24 : decode cX4_labelsIn 24 = .ok (.astore 6, 2) := by decide +kernel
theorem dX4_labelsIn_26 : decode cX4_labelsIn 26 = .ok (.aload 6, 2) := by decide +kernel
theorem dX4_labelsIn_28 : decode cX4_labelsIn 28 = .ok (.arraylength, 1) := by decide +kernel
theorem dX4_labelsIn_29 : decode cX4_labelsIn 29 = .ok (.istore 7, 2) := by decide +kernel
theorem dX4_labelsIn_31 : decode cX4_labelsIn 31 = .ok (.iconst 0, 1) := by decide +kernel
theorem dX4_labelsIn_32 : decode cX4_labelsIn 32 = .ok (.istore 8, 2) := by decide +kernel
theorem dX4_labelsIn_34 : decode cX4_labelsIn 34 = .ok (.iload 8, 2) := by decide +kernel
theorem dX4_labelsIn_36 : decode cX4_labelsIn 36 = .ok (.iload 7, 2) := by decide +kernel
theorem dX4_labelsIn_38 : decode cX4_labelsIn 38 = .ok (.if_icmp .ge 23, 3) := by decide +kernel
theorem dX4_labelsIn_41 : decode cX4_labelsIn 41 = .ok (.aload 6, 2) := by decide +kernel
theorem dX4_labelsIn_43 : decode cX4_labelsIn 43 = .ok (.iload 8, 2) := by decide +kernel
theorem dX4_labelsIn_45 : decode cX4_labelsIn 45 = .ok (.iaload, 1) := by decide +kernel
theorem dX4_labelsIn_46 : decode cX4_labelsIn 46 = .ok (.istore 9, 2) := by decide +kernel
theorem dX4_labelsIn_48 : decode cX4_labelsIn 48 = .ok (.iload_n 1, 1) := by decide +kernel
theorem dX4_labelsIn_49 : decode cX4_labelsIn 49 = .ok (.iconst 1, 1) := by decide +kernel
theorem dX4_labelsIn_50 : decode cX4_labelsIn 50 = .ok (.iload 9, 2) := by decide +kernel
theorem dX4_labelsIn_52 : decode cX4_labelsIn 52 = .ok (.ishl, 1) := by decide +kernel
theorem dX4_labelsIn_53 : decode cX4_labelsIn 53 = .ok (.ior, 1) := by decide +kernel
theorem dX4_labelsIn_54 : decode cX4_labelsIn 54 = .ok (.istore_n 1, 1) := by decide +kernel
theorem dX4_labelsIn_55 : decode cX4_labelsIn 55 = .ok (.iinc 8 1, 3) := by decide +kernel
theorem dX4_labelsIn_58 : decode cX4_labelsIn 58 = .ok (.goto (-24), 3) := by decide +kernel
theorem dX4_labelsIn_61 : decode cX4_labelsIn 61 = .ok (.iinc 4 1, 3) := by decide +kernel
theorem dX4_labelsIn_64 : decode cX4_labelsIn 64 = .ok (.goto (-54), 3) := by decide +kernel
theorem dX4_labelsIn_67 : decode cX4_labelsIn 67 = .ok (.iload_n 1, 1) := by decide +kernel
theorem dX4_labelsIn_68 : decode cX4_labelsIn 68 = .ok (.ireturn, 1) := by decide +kernel
theorem dX4_edgesIn_0 : decode cX4_edgesIn 0 = .ok (.iconst 0, 1) := by decide +kernel
theorem dX4_edgesIn_1 : decode cX4_edgesIn 1 = .ok (.istore_n 2, 1) := by decide +kernel
theorem dX4_edgesIn_2 : decode cX4_edgesIn 2 = .ok (.aload_n 0, 1) := by decide +kernel
theorem dX4_edgesIn_3 : decode cX4_edgesIn 3 = .ok (.astore_n 3, 1) := by decide +kernel
theorem dX4_edgesIn_4 : decode cX4_edgesIn 4 = .ok (.aload_n 3, 1) := by decide +kernel
theorem dX4_edgesIn_5 : decode cX4_edgesIn 5 = .ok (.arraylength, 1) := by decide +kernel
theorem dX4_edgesIn_6 : decode cX4_edgesIn 6 = .ok (.istore 4, 2) := by decide +kernel
theorem dX4_edgesIn_8 : decode cX4_edgesIn 8 = .ok (.iconst 0, 1) := by decide +kernel
theorem dX4_edgesIn_9 : decode cX4_edgesIn 9 = .ok (.istore 5, 2) := by decide +kernel
theorem dX4_edgesIn_11 : decode cX4_edgesIn 11 = .ok (.iload 5, 2) := by decide +kernel
theorem dX4_edgesIn_13 : decode cX4_edgesIn 13 = .ok (.iload 4, 2) := by decide +kernel
theorem dX4_edgesIn_15 : decode cX4_edgesIn 15 = .ok (.if_icmp .ge 42, 3) := by decide +kernel
theorem dX4_edgesIn_18 : decode cX4_edgesIn 18 = .ok (.aload_n 3, 1) := by decide +kernel
theorem dX4_edgesIn_19 : decode cX4_edgesIn 19 = .ok (.iload 5, 2) := by decide +kernel
theorem dX4_edgesIn_21 : decode cX4_edgesIn 21 = .ok (.aaload, 1) := by decide +kernel
theorem dX4_edgesIn_22 : decode cX4_edgesIn 22 = .ok (.astore 6, 2) := by decide +kernel
theorem dX4_edgesIn_24 : decode cX4_edgesIn 24 = .ok (.aload 6, 2) := by decide +kernel
theorem dX4_edgesIn_26 : decode cX4_edgesIn 26 = .ok (.arraylength, 1) := by decide +kernel
theorem dX4_edgesIn_27 : decode cX4_edgesIn 27 = .ok (.ifCond .le 24, 3) := by decide +kernel
theorem dX4_edgesIn_30 : decode cX4_edgesIn 30 = .ok (.iload_n 2, 1) := by decide +kernel
theorem dX4_edgesIn_31 : decode cX4_edgesIn 31 = .ok (.iconst 1, 1) := by decide +kernel
theorem dX4_edgesIn_32 : decode cX4_edgesIn 32 = .ok (.aload 6, 2) := by decide +kernel
theorem dX4_edgesIn_34 : decode cX4_edgesIn 34 = .ok (.iload_n 1, 1) := by decide +kernel
theorem dX4_edgesIn_35 : decode cX4_edgesIn 35 = .ok (.ifCond .eq 11, 3) := by decide +kernel
theorem dX4_edgesIn_38 : decode cX4_edgesIn 38 = .ok (.aload 6, 2) := by decide +kernel
theorem dX4_edgesIn_40 : decode cX4_edgesIn 40 = .ok (.arraylength, 1) := by decide +kernel
theorem dX4_edgesIn_41 : decode cX4_edgesIn 41 = .ok (.iconst 1, 1) := by decide +kernel
theorem dX4_edgesIn_42 : decode cX4_edgesIn 42 = .ok (.isub, 1) := by decide +kernel
theorem dX4_edgesIn_43 : decode cX4_edgesIn 43 = .ok (.goto 4, 3) := by decide +kernel
theorem dX4_edgesIn_46 : decode cX4_edgesIn 46 = .ok (.iconst 0, 1) := by decide +kernel
theorem dX4_edgesIn_47 : decode cX4_edgesIn 47 = .ok (.iaload, 1) := by decide +kernel
theorem dX4_edgesIn_48 : decode cX4_edgesIn 48 = .ok (.ishl, 1) := by decide +kernel
theorem dX4_edgesIn_49 : decode cX4_edgesIn 49 = .ok (.ior, 1) := by decide +kernel
theorem dX4_edgesIn_50 : decode cX4_edgesIn 50 = .ok (.istore_n 2, 1) := by decide +kernel
theorem dX4_edgesIn_51 : decode cX4_edgesIn 51 = .ok (.iinc 5 1, 3) := by decide +kernel
theorem dX4_edgesIn_54 : decode cX4_edgesIn 54 = .ok (.goto (-43), 3) := by decide +kernel
theorem dX4_edgesIn_57 : decode cX4_edgesIn 57 = .ok (.iload_n 2, 1) := by decide +kernel
theorem dX4_edgesIn_58 : decode cX4_edgesIn 58 = .ok (.ireturn, 1) := by decide +kernel
theorem dX4_followers_0 : decode cX4_followers 0 = .ok (.bipush 8, 2) := by decide +kernel
theorem dX4_followers_2 : decode cX4_followers 2 = .ok (.newarray .int, 2) := by decide +kernel
theorem dX4_followers_4 : decode cX4_followers 4 = .ok (.astore_n 1, 1) := by decide +kernel
theorem dX4_followers_5 : decode cX4_followers 5 = .ok (.aload_n 0, 1) := by decide +kernel
theorem dX4_followers_6 : decode cX4_followers 6 = .ok (.astore_n 2, 1) := by decide +kernel
theorem dX4_followers_7 : decode cX4_followers 7 = .ok (.aload_n 2, 1) := by decide +kernel
theorem dX4_followers_8 : decode cX4_followers 8 = .ok (.arraylength, 1) := by decide +kernel
theorem dX4_followers_9 : decode cX4_followers 9 = .ok (.istore_n 3, 1) := by decide +kernel
theorem dX4_followers_10 : decode cX4_followers 10 = .ok (.iconst 0, 1) := by decide +kernel
theorem dX4_followers_11 : decode cX4_followers 11 = .ok (.istore 4, 2) := by decide +kernel
theorem dX4_followers_13 : decode cX4_followers 13 = .ok (.iload 4, 2) := by decide +kernel
theorem dX4_followers_15 : decode cX4_followers 15 = .ok (.iload_n 3, 1) := by decide +kernel
theorem dX4_followers_16 : decode cX4_followers 16 = .ok (.if_icmp .ge 51, 3) := by decide +kernel
theorem dX4_followers_19 : decode cX4_followers 19 = .ok (.aload_n 2, 1) := by decide +kernel
theorem dX4_followers_20 : decode cX4_followers 20 = .ok (.iload 4, 2) := by decide +kernel
theorem dX4_followers_22 : decode cX4_followers 22 = .ok (.aaload, 1) := by decide +kernel
theorem dX4_followers_23 : decode cX4_followers 23 = .ok (.astore 5, 2) := by decide +kernel
theorem dX4_followers_25 : decode cX4_followers 25 = .ok (.iconst 1, 1) := by decide +kernel
theorem dX4_followers_26 : decode cX4_followers 26 = .ok (.istore 6, 2) := by decide +kernel
theorem dX4_followers_28 : decode cX4_followers 28 = .ok (.iload 6, 2) := by decide +kernel
theorem dX4_followers_30 : decode cX4_followers 30 = .ok (.aload 5, 2) := by decide +kernel
theorem dX4_followers_32 : decode cX4_followers 32 = .ok (.arraylength, 1) := by decide +kernel
theorem dX4_followers_33 : decode cX4_followers 33 = .ok (.if_icmp .ge 28, 3) := by decide +kernel
theorem dX4_followers_36 : decode cX4_followers 36 = .ok (.aload_n 1, 1) := by decide +kernel
theorem dX4_followers_37 : decode cX4_followers 37 = .ok (.aload 5, 2) := by decide +kernel
theorem dX4_followers_39 : decode cX4_followers 39 = .ok (.iload 6, 2) := by decide +kernel
theorem dX4_followers_41 : decode cX4_followers 41 = .ok (.iconst 1, 1) := by decide +kernel
theorem dX4_followers_42 : decode cX4_followers 42 = .ok (.isub, 1) := by decide +kernel
theorem dX4_followers_43 : decode cX4_followers 43 = .ok (.iaload, 1) := by decide +kernel
theorem dX4_followers_44 : decode cX4_followers 44 = .ok (.dup2, 1) := by decide +kernel
theorem dX4_followers_45 : decode cX4_followers 45 = .ok (.iaload, 1) := by decide +kernel
theorem dX4_followers_46 : decode cX4_followers 46 = .ok (.iconst 1, 1) := by decide +kernel
theorem dX4_followers_47 : decode cX4_followers 47 = .ok (.aload 5, 2) := by decide +kernel
theorem dX4_followers_49 : decode cX4_followers 49 = .ok (.iload 6, 2) := by decide +kernel
theorem dX4_followers_51 : decode cX4_followers 51 = .ok (.iaload, 1) := by decide +kernel
theorem dX4_followers_52 : decode cX4_followers 52 = .ok (.ishl, 1) := by decide +kernel
theorem dX4_followers_53 : decode cX4_followers 53 = .ok (.ior, 1) := by decide +kernel
theorem dX4_followers_54 : decode cX4_followers 54 = .ok (.iastore, 1) := by decide +kernel
theorem dX4_followers_55 : decode cX4_followers 55 = .ok (.iinc 6 1, 3) := by decide +kernel
theorem dX4_followers_58 : decode cX4_followers 58 = .ok (.goto (-30), 3) := by decide +kernel
theorem dX4_followers_61 : decode cX4_followers 61 = .ok (.iinc 4 1, 3) := by decide +kernel
theorem dX4_followers_64 : decode cX4_followers 64 = .ok (.goto (-51), 3) := by decide +kernel
theorem dX4_followers_67 : decode cX4_followers 67 = .ok (.aload_n 1, 1) := by decide +kernel
theorem dX4_followers_68 : decode cX4_followers 68 = .ok (.areturn, 1) := by decide +kernel
theorem dX4_parts_0 : decode cX4_parts 0 = .ok (.iload_n 0, 1) := by decide +kernel
theorem dX4_parts_1 : decode cX4_parts 1 = .ok (.invokestatic 70, 3) := by decide +kernel
theorem dX4_parts_4 : decode cX4_parts 4 = .ok (.newarray .int, 2) := by decide +kernel
theorem dX4_parts_6 : decode cX4_parts 6 = .ok (.astore_n 2, 1) := by decide +kernel
theorem dX4_parts_7 : decode cX4_parts 7 = .ok (.iconst 0, 1) := by decide +kernel
theorem dX4_parts_8 : decode cX4_parts 8 = .ok (.istore_n 3, 1) := by decide +kernel
theorem dX4_parts_9 : decode cX4_parts 9 = .ok (.iload_n 0, 1) := by decide +kernel
theorem dX4_parts_10 : decode cX4_parts 10 = .ok (.istore 4, 2) := by decide +kernel
theorem dX4_parts_12 : decode cX4_parts 12 = .ok (.iload 4, 2) := by decide +kernel
theorem dX4_parts_14 : decode cX4_parts 14 = .ok (.ifCond .eq 157, 3) := by decide +kernel
theorem dX4_parts_17 : decode cX4_parts 17 = .ok (.iload 4, 2) := by decide +kernel
theorem dX4_parts_19 : decode cX4_parts 19 = .ok (.invokestatic 75, 3) := by decide +kernel
theorem dX4_parts_22 : decode cX4_parts 22 = .ok (.istore 5, 2) := by decide +kernel
theorem dX4_parts_24 : decode cX4_parts 24 = .ok (.iconst 0, 1) := by decide +kernel
theorem dX4_parts_25 : decode cX4_parts 25 = .ok (.istore 6, 2) := by decide +kernel
theorem dX4_parts_27 : decode cX4_parts 27 = .ok (.iload 5, 2) := by decide +kernel
theorem dX4_parts_29 : decode cX4_parts 29 = .ok (.iload 6, 2) := by decide +kernel
theorem dX4_parts_31 : decode cX4_parts 31 = .ok (.if_icmp .eq 120, 3) := by decide +kernel
theorem dX4_parts_34 : decode cX4_parts 34 = .ok (.iload 5, 2) := by decide +kernel
theorem dX4_parts_36 : decode cX4_parts 36 = .ok (.istore 6, 2) := by decide +kernel
theorem dX4_parts_38 : decode cX4_parts 38 = .ok (.iconst 0, 1) := by decide +kernel
theorem dX4_parts_39 : decode cX4_parts 39 = .ok (.istore 7, 2) := by decide +kernel
theorem dX4_parts_41 : decode cX4_parts 41 = .ok (.iload 7, 2) := by decide +kernel
theorem dX4_parts_43 : decode cX4_parts 43 = .ok (.bipush 8, 2) := by decide +kernel
theorem dX4_parts_45 : decode cX4_parts 45 = .ok (.if_icmp .ge 103, 3) := by decide +kernel
theorem dX4_parts_48 : decode cX4_parts 48 = .ok (.iconst 0, 1) := by decide +kernel
theorem dX4_parts_49 : decode cX4_parts 49 = .ok (.istore 8, 2) := by decide +kernel
theorem dX4_parts_51 : decode cX4_parts 51 = .ok (.iload 8, 2) := by decide +kernel
theorem dX4_parts_53 : decode cX4_parts 53 = .ok (.bipush 8, 2) := by decide +kernel
theorem dX4_parts_55 : decode cX4_parts 55 = .ok (.if_icmp .ge 87, 3) := by decide +kernel
theorem dX4_parts_58 : decode cX4_parts 58 = .ok (.iload 4, 2) := by decide +kernel
theorem dX4_parts_60 : decode cX4_parts 60 = .ok (.iload 7, 2) := by decide +kernel
theorem dX4_parts_62 : decode cX4_parts 62 = .ok (.invokestatic 66, 3) := by decide +kernel
theorem dX4_parts_65 : decode cX4_parts 65 = .ok (.ifCond .eq 71, 3) := by decide +kernel
theorem dX4_parts_68 : decode cX4_parts 68 = .ok (.iload 4, 2) := by decide +kernel
theorem dX4_parts_70 : decode cX4_parts 70 = .ok (.iload 8, 2) := by decide +kernel
theorem dX4_parts_72 : decode cX4_parts 72 = .ok (.invokestatic 66, 3) := by decide +kernel
theorem dX4_parts_75 : decode cX4_parts 75 = .ok (.ifCond .eq 61, 3) := by decide +kernel
theorem dX4_parts_78 : decode cX4_parts 78 = .ok (.aload_n 1, 1) := by decide +kernel
theorem dX4_parts_79 : decode cX4_parts 79 = .ok (.iload 7, 2) := by decide +kernel
theorem dX4_parts_81 : decode cX4_parts 81 = .ok (.iaload, 1) := by decide +kernel
theorem dX4_parts_82 : decode cX4_parts 82 = .ok (.iload 8, 2) := by decide +kernel
theorem dX4_parts_84 : decode cX4_parts 84 = .ok (.invokestatic 66, 3) := by decide +kernel
theorem dX4_parts_87 : decode cX4_parts 87 = .ok (.ifCond .ne 15, 3) := by decide +kernel
theorem dX4_parts_90 : decode cX4_parts 90 = .ok (.aload_n 1, 1) := by decide +kernel
theorem dX4_parts_91 : decode cX4_parts 91 = .ok (.iload 8, 2) := by decide +kernel
theorem dX4_parts_93 : decode cX4_parts 93 = .ok (.iaload, 1) := by decide +kernel
theorem dX4_parts_94 : decode cX4_parts 94 = .ok (.iload 7, 2) := by decide +kernel
theorem dX4_parts_96 : decode cX4_parts 96 = .ok (.invokestatic 66, 3) := by decide +kernel
theorem dX4_parts_99 : decode cX4_parts 99 = .ok (.ifCond .eq 37, 3) := by decide +kernel
theorem dX4_parts_102 : decode cX4_parts 102 = .ok (.iload 5, 2) := by decide +kernel
theorem dX4_parts_104 : decode cX4_parts 104 = .ok (.iload 7, 2) := by decide +kernel
theorem dX4_parts_106 : decode cX4_parts 106 = .ok (.invokestatic 66, 3) := by decide +kernel
theorem dX4_parts_109 : decode cX4_parts 109 = .ok (.ifCond .ne 13, 3) := by decide +kernel
theorem dX4_parts_112 : decode cX4_parts 112 = .ok (.iload 5, 2) := by decide +kernel
theorem dX4_parts_114 : decode cX4_parts 114 = .ok (.iload 8, 2) := by decide +kernel
theorem dX4_parts_116 : decode cX4_parts 116 = .ok (.invokestatic 66, 3) := by decide +kernel
theorem dX4_parts_119 : decode cX4_parts 119 = .ok (.ifCond .eq 17, 3) := by decide +kernel
theorem dX4_parts_122 : decode cX4_parts 122 = .ok (.iload 5, 2) := by decide +kernel
theorem dX4_parts_124 : decode cX4_parts 124 = .ok (.iconst 1, 1) := by decide +kernel
theorem dX4_parts_125 : decode cX4_parts 125 = .ok (.iload 7, 2) := by decide +kernel
theorem dX4_parts_127 : decode cX4_parts 127 = .ok (.ishl, 1) := by decide +kernel
theorem dX4_parts_128 : decode cX4_parts 128 = .ok (.iconst 1, 1) := by decide +kernel
theorem dX4_parts_129 : decode cX4_parts 129 = .ok (.iload 8, 2) := by decide +kernel
theorem dX4_parts_131 : decode cX4_parts 131 = .ok (.ishl, 1) := by decide +kernel
theorem dX4_parts_132 : decode cX4_parts 132 = .ok (.ior, 1) := by decide +kernel
theorem dX4_parts_133 : decode cX4_parts 133 = .ok (.ior, 1) := by decide +kernel
theorem dX4_parts_134 : decode cX4_parts 134 = .ok (.istore 5, 2) := by decide +kernel
theorem dX4_parts_136 : decode cX4_parts 136 = .ok (.iinc 8 1, 3) := by decide +kernel
theorem dX4_parts_139 : decode cX4_parts 139 = .ok (.goto (-88), 3) := by decide +kernel
theorem dX4_parts_142 : decode cX4_parts 142 = .ok (.iinc 7 1, 3) := by decide +kernel
theorem dX4_parts_145 : decode cX4_parts 145 = .ok (.goto (-104), 3) := by decide +kernel
theorem dX4_parts_148 : decode cX4_parts 148 = .ok (.goto (-121), 3) := by decide +kernel
theorem dX4_parts_151 : decode cX4_parts 151 = .ok (.aload_n 2, 1) := by decide +kernel
theorem dX4_parts_152 : decode cX4_parts 152 = .ok (.iload_n 3, 1) := by decide +kernel
theorem dX4_parts_153 : decode cX4_parts 153 = .ok (.iload 5, 2) := by decide +kernel
theorem dX4_parts_155 : decode cX4_parts 155 = .ok (.iastore, 1) := by decide +kernel
theorem dX4_parts_156 : decode cX4_parts 156 = .ok (.iinc 3 1, 3) := by decide +kernel
theorem dX4_parts_159 : decode cX4_parts 159 = .ok (.iload 4, 2) := by decide +kernel
theorem dX4_parts_161 : decode cX4_parts 161 = .ok (.iload 5, 2) := by decide +kernel
theorem dX4_parts_163 : decode cX4_parts 163 = .ok (.iconst (-1), 1) := by decide +kernel
theorem dX4_parts_164 : decode cX4_parts 164 = .ok (.ixor, 1) := by decide +kernel
theorem dX4_parts_165 : decode cX4_parts 165 = .ok (.iand, 1) := by decide +kernel
theorem dX4_parts_166 : decode cX4_parts 166 = .ok (.istore 4, 2) := by decide +kernel
theorem dX4_parts_168 : decode cX4_parts 168 = .ok (.goto (-156), 3) := by decide +kernel
theorem dX4_parts_171 : decode cX4_parts 171 = .ok (.iload_n 3, 1) := by decide +kernel
theorem dX4_parts_172 : decode cX4_parts 172 = .ok (.newarray .int, 2) := by decide +kernel
theorem dX4_parts_174 : decode cX4_parts 174 = .ok (.astore 5, 2) := by decide +kernel
theorem dX4_parts_176 : decode cX4_parts 176 = .ok (.aload_n 2, 1) := by decide +kernel
theorem dX4_parts_177 : decode cX4_parts 177 = .ok (.iconst 0, 1) := by decide +kernel
theorem dX4_parts_178 : decode cX4_parts 178 = .ok (.aload 5, 2) := by decide +kernel
theorem dX4_parts_180 : decode cX4_parts 180 = .ok (.iconst 0, 1) := by decide +kernel
theorem dX4_parts_181 : decode cX4_parts 181 = .ok (.iload_n 3, 1) := by decide +kernel
theorem dX4_parts_182 : decode cX4_parts 182 = .ok (.invokestatic 78, 3) := by decide +kernel
theorem dX4_parts_185 : decode cX4_parts 185 = .ok (.aload 5, 2) := by decide +kernel
theorem dX4_parts_187 : decode cX4_parts 187 = .ok (.areturn, 1) := by decide +kernel
theorem dX4_only_0 : decode cX4_only 0 = .ok (.iconst 0, 1) := by decide +kernel
theorem dX4_only_1 : decode cX4_only 1 = .ok (.istore_n 3, 1) := by decide +kernel
theorem dX4_only_2 : decode cX4_only 2 = .ok (.aload_n 0, 1) := by decide +kernel
theorem dX4_only_3 : decode cX4_only 3 = .ok (.arraylength, 1) := by decide +kernel
theorem dX4_only_4 : decode cX4_only 4 = .ok (.anewarray 84, 3) := by decide +kernel
theorem dX4_only_7 : decode cX4_only 7 = .ok (.astore 4, 2) := by decide +kernel
theorem dX4_only_9 : decode cX4_only 9 = .ok (.aload_n 0, 1) := by decide +kernel
theorem dX4_only_10 : decode cX4_only 10 = .ok (.astore 5, 2) := by decide +kernel
theorem dX4_only_12 : decode cX4_only 12 = .ok (.aload 5, 2) := by decide +kernel
theorem dX4_only_14 : decode cX4_only 14 = .ok (.arraylength, 1) := by decide +kernel
theorem dX4_only_15 : decode cX4_only 15 = .ok (.istore 6, 2) := by decide +kernel
theorem dX4_only_17 : decode cX4_only 17 = .ok (.iconst 0, 1) := by decide +kernel
theorem dX4_only_18 : decode cX4_only 18 = .ok (.istore 7, 2) := by decide +kernel
theorem dX4_only_20 : decode cX4_only 20 = .ok (.iload 7, 2) := by decide +kernel
theorem dX4_only_22 : decode cX4_only 22 = .ok (.iload 6, 2) := by decide +kernel
theorem dX4_only_24 : decode cX4_only 24 = .ok (.if_icmp .ge 152, 3) := by decide +kernel
theorem dX4_only_27 : decode cX4_only 27 = .ok (.aload 5, 2) := by decide +kernel
theorem dX4_only_29 : decode cX4_only 29 = .ok (.iload 7, 2) := by decide +kernel
theorem dX4_only_31 : decode cX4_only 31 = .ok (.aaload, 1) := by decide +kernel
theorem dX4_only_32 : decode cX4_only 32 = .ok (.astore 8, 2) := by decide +kernel
theorem dX4_only_34 : decode cX4_only 34 = .ok (.iconst 0, 1) := by decide +kernel
theorem dX4_only_35 : decode cX4_only 35 = .ok (.istore 9, 2) := by decide +kernel
theorem dX4_only_37 : decode cX4_only 37 = .ok (.aload 8, 2) := by decide +kernel
theorem dX4_only_39 : decode cX4_only 39 = .ok (.astore 10, 2) := by decide +kernel
theorem dX4_only_41 : decode cX4_only 41 = .ok (.aload 10, 2) := by decide +kernel
end
section
theorem dX4_only_43 : decode cX4_only 43 = .ok (.arraylength, 1) := by decide +kernel
theorem dX4_only_44 : decode cX4_only 44 = .ok (.istore 11, 2) := by decide +kernel
theorem dX4_only_46 : decode cX4_only 46 = .ok (.iconst 0, 1) := by decide +kernel
theorem dX4_only_47 : decode cX4_only 47 = .ok (.istore 12, 2) := by decide +kernel
theorem dX4_only_49 : decode cX4_only 49 = .ok (.iload 12, 2) := by decide +kernel
theorem dX4_only_51 : decode cX4_only 51 = .ok (.iload 11, 2) := by decide +kernel
theorem dX4_only_53 : decode cX4_only 53 = .ok (.if_icmp .ge 35, 3) := by decide +kernel
theorem dX4_only_56 : decode cX4_only 56 = .ok (.aload 10, 2) := by decide +kernel
theorem dX4_only_58 : decode cX4_only 58 = .ok (.iload 12, 2) := by decide +kernel
theorem dX4_only_60 : decode cX4_only 60 = .ok (.iaload, 1) := by decide +kernel
theorem dX4_only_61 : decode cX4_only 61 = .ok (.istore 13, 2) := by decide +kernel
theorem dX4_only_63 : decode cX4_only 63 = .ok (.iload 9, 2) := by decide +kernel
theorem dX4_only_65 : decode cX4_only 65 = .ok (.iload_n 1, 1) := by decide +kernel
theorem dX4_only_66 : decode cX4_only 66 = .ok (.iload 13, 2) := by decide +kernel
theorem dX4_only_68 : decode cX4_only 68 = .ok (.invokestatic 66, 3) := by decide +kernel
theorem dX4_only_71 : decode cX4_only 71 = .ok (.ifCond .eq 7, 3) := by decide +kernel
theorem dX4_only_74 : decode cX4_only 74 = .ok (.iconst 1, 1) := by decide +kernel
theorem dX4_only_75 : decode cX4_only 75 = .ok (.goto 4, 3) := by decide +kernel
theorem dX4_only_78 : decode cX4_only 78 = .ok (.iconst 0, 1) := by decide +kernel
theorem dX4_only_79 : decode cX4_only 79 = .ok (.iadd, 1) := by decide +kernel
theorem dX4_only_80 : decode cX4_only 80 = .ok (.istore 9, 2) := by decide +kernel
theorem dX4_only_82 : decode cX4_only 82 = .ok (.iinc 12 1, 3) := by decide +kernel
theorem dX4_only_85 : decode cX4_only 85 = .ok (.goto (-36), 3) := by decide +kernel
theorem dX4_only_88 : decode cX4_only 88 = .ok (.iload 9, 2) := by decide +kernel
theorem dX4_only_90 : decode cX4_only 90 = .ok (.ifCond .ne 10, 3) := by decide +kernel
theorem dX4_only_93 : decode cX4_only 93 = .ok (.iload_n 2, 1) := by decide +kernel
theorem dX4_only_94 : decode cX4_only 94 = .ok (.ifCond .ne 6, 3) := by decide +kernel
theorem dX4_only_97 : decode cX4_only 97 = .ok (.goto 73, 3) := by decide +kernel
theorem dX4_only_100 : decode cX4_only 100 = .ok (.aload 4, 2) := by decide +kernel
theorem dX4_only_102 : decode cX4_only 102 = .ok (.iload_n 3, 1) := by decide +kernel
theorem dX4_only_103 : decode cX4_only 103 = .ok (.iload 9, 2) := by decide +kernel
theorem dX4_only_105 : decode cX4_only 105 = .ok (.newarray .int, 2) := by decide +kernel
theorem dX4_only_107 : decode cX4_only 107 = .ok (.aastore, 1) := by decide +kernel
theorem dX4_only_108 : decode cX4_only 108 = .ok (.iconst 0, 1) := by decide +kernel
theorem dX4_only_109 : decode cX4_only 109 = .ok (.istore 10, 2) := by decide +kernel
theorem dX4_only_111 : decode cX4_only 111 = .ok (.aload 8, 2) := by decide +kernel
theorem dX4_only_113 : decode cX4_only 113 = .ok (.astore 11, 2) := by decide +kernel
theorem dX4_only_115 : decode cX4_only 115 = .ok (.aload 11, 2) := by decide +kernel
theorem dX4_only_117 : decode cX4_only 117 = .ok (.arraylength, 1) := by decide +kernel
theorem dX4_only_118 : decode cX4_only 118 = .ok (.istore 12, 2) := by decide +kernel
theorem dX4_only_120 : decode cX4_only 120 = .ok (.iconst 0, 1) := by decide +kernel
theorem dX4_only_121 : decode cX4_only 121 = .ok (.istore 13, 2) := by decide +kernel
theorem dX4_only_123 : decode cX4_only 123 = .ok (.iload 13, 2) := by decide +kernel
theorem dX4_only_125 : decode cX4_only 125 = .ok (.iload 12, 2) := by decide +kernel
theorem dX4_only_127 : decode cX4_only 127 = .ok (.if_icmp .ge 40, 3) := by decide +kernel
theorem dX4_only_130 : decode cX4_only 130 = .ok (.aload 11, 2) := by decide +kernel
theorem dX4_only_132 : decode cX4_only 132 = .ok (.iload 13, 2) := by decide +kernel
theorem dX4_only_134 : decode cX4_only 134 = .ok (.iaload, 1) := by decide +kernel
theorem dX4_only_135 : decode cX4_only 135 = .ok (.istore 14, 2) := by decide +kernel
theorem dX4_only_137 : decode cX4_only 137 = .ok (.iload_n 1, 1) := by decide +kernel
theorem dX4_only_138 : decode cX4_only 138 = .ok (.iload 14, 2) := by decide +kernel
theorem dX4_only_140 : decode cX4_only 140 = .ok (.invokestatic 66, 3) := by decide +kernel
theorem dX4_only_143 : decode cX4_only 143 = .ok (.ifCond .ne 6, 3) := by decide +kernel
theorem dX4_only_146 : decode cX4_only 146 = .ok (.goto 15, 3) := by decide +kernel
theorem dX4_only_149 : decode cX4_only 149 = .ok (.aload 4, 2) := by decide +kernel
theorem dX4_only_151 : decode cX4_only 151 = .ok (.iload_n 3, 1) := by decide +kernel
theorem dX4_only_152 : decode cX4_only 152 = .ok (.aaload, 1) := by decide +kernel
theorem dX4_only_153 : decode cX4_only 153 = .ok (.iload 10, 2) := by decide +kernel
theorem dX4_only_155 : decode cX4_only 155 = .ok (.iload 14, 2) := by decide +kernel
theorem dX4_only_157 : decode cX4_only 157 = .ok (.iastore, 1) := by decide +kernel
theorem dX4_only_158 : decode cX4_only 158 = .ok (.iinc 10 1, 3) := by decide +kernel
theorem dX4_only_161 : decode cX4_only 161 = .ok (.iinc 13 1, 3) := by decide +kernel
theorem dX4_only_164 : decode cX4_only 164 = .ok (.goto (-41), 3) := by decide +kernel
theorem dX4_only_167 : decode cX4_only 167 = .ok (.iinc 3 1, 3) := by decide +kernel
theorem dX4_only_170 : decode cX4_only 170 = .ok (.iinc 7 1, 3) := by decide +kernel
theorem dX4_only_173 : decode cX4_only 173 = .ok (.goto (-153), 3) := by decide +kernel
theorem dX4_only_176 : decode cX4_only 176 = .ok (.aload 4, 2) := by decide +kernel
theorem dX4_only_178 : decode cX4_only 178 = .ok (.iload_n 3, 1) := by decide +kernel
theorem dX4_only_179 : decode cX4_only 179 = .ok (.invokestatic 85, 3) := by decide +kernel
theorem dX4_only_182 : decode cX4_only 182 = .ok (.areturn, 1) := by decide +kernel
theorem dX4_shortened_0 : decode cX4_shortened 0 = .ok (.iload_n 1, 1) := by decide +kernel
theorem dX4_shortened_1 : decode cX4_shortened 1 = .ok (.anewarray 84, 3) := by decide +kernel
theorem dX4_shortened_4 : decode cX4_shortened 4 = .ok (.astore_n 2, 1) := by decide +kernel
theorem dX4_shortened_5 : decode cX4_shortened 5 = .ok (.iconst 0, 1) := by decide +kernel
theorem dX4_shortened_6 : decode cX4_shortened 6 = .ok (.istore_n 3, 1) := by decide +kernel
theorem dX4_shortened_7 : decode cX4_shortened 7 = .ok (.iload_n 3, 1) := by decide +kernel
theorem dX4_shortened_8 : decode cX4_shortened 8 = .ok (.iload_n 1, 1) := by decide +kernel
theorem dX4_shortened_9 : decode cX4_shortened 9 = .ok (.if_icmp .ge 15, 3) := by decide +kernel
theorem dX4_shortened_12 : decode cX4_shortened 12 = .ok (.aload_n 2, 1) := by decide +kernel
theorem dX4_shortened_13 : decode cX4_shortened 13 = .ok (.iload_n 3, 1) := by decide +kernel
theorem dX4_shortened_14 : decode cX4_shortened 14 = .ok (.aload_n 0, 1) := by decide +kernel
theorem dX4_shortened_15 : decode cX4_shortened 15 = .ok (.iload_n 3, 1) := by decide +kernel
theorem dX4_shortened_16 : decode cX4_shortened 16 = .ok (.aaload, 1) := by decide +kernel
theorem dX4_shortened_17 : decode cX4_shortened 17 = .ok (.aastore, 1) := by decide +kernel
theorem dX4_shortened_18 : decode cX4_shortened 18 = .ok (.iinc 3 1, 3) := by decide +kernel
theorem dX4_shortened_21 : decode cX4_shortened 21 = .ok (.goto (-14), 3) := by decide +kernel
theorem dX4_shortened_24 : decode cX4_shortened 24 = .ok (.aload_n 2, 1) := by decide +kernel
theorem dX4_shortened_25 : decode cX4_shortened 25 = .ok (.areturn, 1) := by decide +kernel
theorem dX4_pieces_0 : decode cX4_pieces 0 = .ok (.bipush 12, 2) := by decide +kernel
theorem dX4_pieces_2 : decode cX4_pieces 2 = .ok (.aload_n 0, 1) := by decide +kernel
theorem dX4_pieces_3 : decode cX4_pieces 3 = .ok (.arraylength, 1) := by decide +kernel
theorem dX4_pieces_4 : decode cX4_pieces 4 = .ok (.iconst 1, 1) := by decide +kernel
theorem dX4_pieces_5 : decode cX4_pieces 5 = .ok (.iadd, 1) := by decide +kernel
theorem dX4_pieces_6 : decode cX4_pieces 6 = .ok (.imul, 1) := by decide +kernel
theorem dX4_pieces_7 : decode cX4_pieces 7 = .ok (.anewarray 84, 3) := by decide +kernel
theorem dX4_pieces_10 : decode cX4_pieces 10 = .ok (.astore_n 2, 1) := by decide +kernel
theorem dX4_pieces_11 : decode cX4_pieces 11 = .ok (.iconst 0, 1) := by decide +kernel
theorem dX4_pieces_12 : decode cX4_pieces 12 = .ok (.istore_n 3, 1) := by decide +kernel
theorem dX4_pieces_13 : decode cX4_pieces 13 = .ok (.aload_n 0, 1) := by decide +kernel
theorem dX4_pieces_14 : decode cX4_pieces 14 = .ok (.astore 4, 2) := by decide +kernel
theorem dX4_pieces_16 : decode cX4_pieces 16 = .ok (.aload 4, 2) := by decide +kernel
theorem dX4_pieces_18 : decode cX4_pieces 18 = .ok (.arraylength, 1) := by decide +kernel
theorem dX4_pieces_19 : decode cX4_pieces 19 = .ok (.istore 5, 2) := by decide +kernel
theorem dX4_pieces_21 : decode cX4_pieces 21 = .ok (.iconst 0, 1) := by decide +kernel
theorem dX4_pieces_22 : decode cX4_pieces 22 = .ok (.istore 6, 2) := by decide +kernel
theorem dX4_pieces_24 : decode cX4_pieces 24 = .ok (.iload 6, 2) := by decide +kernel
theorem dX4_pieces_26 : decode cX4_pieces 26 = .ok (.iload 5, 2) := by decide +kernel
theorem dX4_pieces_28 : decode cX4_pieces 28 = .ok (.if_icmp .ge 107, 3) := by decide +kernel
theorem dX4_pieces_31 : decode cX4_pieces 31 = .ok (.aload 4, 2) := by decide +kernel
theorem dX4_pieces_33 : decode cX4_pieces 33 = .ok (.iload 6, 2) := by decide +kernel
theorem dX4_pieces_35 : decode cX4_pieces 35 = .ok (.aaload, 1) := by decide +kernel
theorem dX4_pieces_36 : decode cX4_pieces 36 = .ok (.astore 7, 2) := by decide +kernel
theorem dX4_pieces_38 : decode cX4_pieces 38 = .ok (.iconst 0, 1) := by decide +kernel
theorem dX4_pieces_39 : decode cX4_pieces 39 = .ok (.istore 8, 2) := by decide +kernel
theorem dX4_pieces_41 : decode cX4_pieces 41 = .ok (.iload 8, 2) := by decide +kernel
theorem dX4_pieces_43 : decode cX4_pieces 43 = .ok (.aload 7, 2) := by decide +kernel
theorem dX4_pieces_45 : decode cX4_pieces 45 = .ok (.arraylength, 1) := by decide +kernel
theorem dX4_pieces_46 : decode cX4_pieces 46 = .ok (.if_icmp .ge 83, 3) := by decide +kernel
theorem dX4_pieces_49 : decode cX4_pieces 49 = .ok (.iload 8, 2) := by decide +kernel
theorem dX4_pieces_51 : decode cX4_pieces 51 = .ok (.istore 9, 2) := by decide +kernel
theorem dX4_pieces_53 : decode cX4_pieces 53 = .ok (.iload 9, 2) := by decide +kernel
theorem dX4_pieces_55 : decode cX4_pieces 55 = .ok (.aload 7, 2) := by decide +kernel
theorem dX4_pieces_57 : decode cX4_pieces 57 = .ok (.arraylength, 1) := by decide +kernel
theorem dX4_pieces_58 : decode cX4_pieces 58 = .ok (.if_icmp .ge 21, 3) := by decide +kernel
theorem dX4_pieces_61 : decode cX4_pieces 61 = .ok (.iload_n 1, 1) := by decide +kernel
theorem dX4_pieces_62 : decode cX4_pieces 62 = .ok (.aload 7, 2) := by decide +kernel
theorem dX4_pieces_64 : decode cX4_pieces 64 = .ok (.iload 9, 2) := by decide +kernel
theorem dX4_pieces_66 : decode cX4_pieces 66 = .ok (.iaload, 1) := by decide +kernel
theorem dX4_pieces_67 : decode cX4_pieces 67 = .ok (.invokestatic 66, 3) := by decide +kernel
theorem dX4_pieces_70 : decode cX4_pieces 70 = .ok (.ifCond .eq 9, 3) := by decide +kernel
theorem dX4_pieces_73 : decode cX4_pieces 73 = .ok (.iinc 9 1, 3) := by decide +kernel
theorem dX4_pieces_76 : decode cX4_pieces 76 = .ok (.goto (-23), 3) := by decide +kernel
theorem dX4_pieces_79 : decode cX4_pieces 79 = .ok (.iload 9, 2) := by decide +kernel
theorem dX4_pieces_81 : decode cX4_pieces 81 = .ok (.iload 8, 2) := by decide +kernel
theorem dX4_pieces_83 : decode cX4_pieces 83 = .ok (.if_icmp .le 32, 3) := by decide +kernel
theorem dX4_pieces_86 : decode cX4_pieces 86 = .ok (.aload_n 2, 1) := by decide +kernel
theorem dX4_pieces_87 : decode cX4_pieces 87 = .ok (.iload_n 3, 1) := by decide +kernel
theorem dX4_pieces_88 : decode cX4_pieces 88 = .ok (.iload 9, 2) := by decide +kernel
theorem dX4_pieces_90 : decode cX4_pieces 90 = .ok (.iload 8, 2) := by decide +kernel
theorem dX4_pieces_92 : decode cX4_pieces 92 = .ok (.isub, 1) := by decide +kernel
theorem dX4_pieces_93 : decode cX4_pieces 93 = .ok (.newarray .int, 2) := by decide +kernel
theorem dX4_pieces_95 : decode cX4_pieces 95 = .ok (.aastore, 1) := by decide +kernel
theorem dX4_pieces_96 : decode cX4_pieces 96 = .ok (.aload 7, 2) := by decide +kernel
theorem dX4_pieces_98 : decode cX4_pieces 98 = .ok (.iload 8, 2) := by decide +kernel
theorem dX4_pieces_100 : decode cX4_pieces 100 = .ok (.aload_n 2, 1) := by decide +kernel
theorem dX4_pieces_101 : decode cX4_pieces 101 = .ok (.iload_n 3, 1) := by decide +kernel
theorem dX4_pieces_102 : decode cX4_pieces 102 = .ok (.aaload, 1) := by decide +kernel
theorem dX4_pieces_103 : decode cX4_pieces 103 = .ok (.iconst 0, 1) := by decide +kernel
theorem dX4_pieces_104 : decode cX4_pieces 104 = .ok (.iload 9, 2) := by decide +kernel
theorem dX4_pieces_106 : decode cX4_pieces 106 = .ok (.iload 8, 2) := by decide +kernel
theorem dX4_pieces_108 : decode cX4_pieces 108 = .ok (.isub, 1) := by decide +kernel
theorem dX4_pieces_109 : decode cX4_pieces 109 = .ok (.invokestatic 78, 3) := by decide +kernel
theorem dX4_pieces_112 : decode cX4_pieces 112 = .ok (.iinc 3 1, 3) := by decide +kernel
theorem dX4_pieces_115 : decode cX4_pieces 115 = .ok (.iload 9, 2) := by decide +kernel
theorem dX4_pieces_117 : decode cX4_pieces 117 = .ok (.iload 8, 2) := by decide +kernel
theorem dX4_pieces_119 : decode cX4_pieces 119 = .ok (.iconst 1, 1) := by decide +kernel
theorem dX4_pieces_120 : decode cX4_pieces 120 = .ok (.iadd, 1) := by decide +kernel
theorem dX4_pieces_121 : decode cX4_pieces 121 = .ok (.invokestatic 89, 3) := by decide +kernel
theorem dX4_pieces_124 : decode cX4_pieces 124 = .ok (.istore 8, 2) := by decide +kernel
theorem dX4_pieces_126 : decode cX4_pieces 126 = .ok (.goto (-85), 3) := by decide +kernel
theorem dX4_pieces_129 : decode cX4_pieces 129 = .ok (.iinc 6 1, 3) := by decide +kernel
theorem dX4_pieces_132 : decode cX4_pieces 132 = .ok (.goto (-108), 3) := by decide +kernel
theorem dX4_pieces_135 : decode cX4_pieces 135 = .ok (.aload_n 2, 1) := by decide +kernel
theorem dX4_pieces_136 : decode cX4_pieces 136 = .ok (.iload_n 3, 1) := by decide +kernel
theorem dX4_pieces_137 : decode cX4_pieces 137 = .ok (.invokestatic 85, 3) := by decide +kernel
theorem dX4_pieces_140 : decode cX4_pieces 140 = .ok (.areturn, 1) := by decide +kernel
theorem dX4_add_0 : decode cX4_add 0 = .ok (.aload_n 0, 1) := by decide +kernel
theorem dX4_add_1 : decode cX4_add 1 = .ok (.getfield 22, 3) := by decide +kernel
theorem dX4_add_4 : decode cX4_add 4 = .ok (.aload_n 0, 1) := by decide +kernel
theorem dX4_add_5 : decode cX4_add 5 = .ok (.getfield 94, 3) := by decide +kernel
theorem dX4_add_8 : decode cX4_add 8 = .ok (.iload_n 1, 1) := by decide +kernel
theorem dX4_add_9 : decode cX4_add 9 = .ok (.iastore, 1) := by decide +kernel
theorem dX4_add_10 : decode cX4_add 10 = .ok (.aload_n 0, 1) := by decide +kernel
theorem dX4_add_11 : decode cX4_add 11 = .ok (.getfield 25, 3) := by decide +kernel
theorem dX4_add_14 : decode cX4_add 14 = .ok (.aload_n 0, 1) := by decide +kernel
theorem dX4_add_15 : decode cX4_add 15 = .ok (.getfield 94, 3) := by decide +kernel
theorem dX4_add_18 : decode cX4_add 18 = .ok (.iload_n 2, 1) := by decide +kernel
theorem dX4_add_19 : decode cX4_add 19 = .ok (.iastore, 1) := by decide +kernel
theorem dX4_add_20 : decode cX4_add 20 = .ok (.aload_n 0, 1) := by decide +kernel
theorem dX4_add_21 : decode cX4_add 21 = .ok (.getfield 28, 3) := by decide +kernel
theorem dX4_add_24 : decode cX4_add 24 = .ok (.aload_n 0, 1) := by decide +kernel
theorem dX4_add_25 : decode cX4_add 25 = .ok (.getfield 94, 3) := by decide +kernel
theorem dX4_add_28 : decode cX4_add 28 = .ok (.iload_n 3, 1) := by decide +kernel
theorem dX4_add_29 : decode cX4_add 29 = .ok (.iastore, 1) := by decide +kernel
theorem dX4_add_30 : decode cX4_add 30 = .ok (.aload_n 0, 1) := by decide +kernel
theorem dX4_add_31 : decode cX4_add 31 = .ok (.dup, 1) := by decide +kernel
theorem dX4_add_32 : decode cX4_add 32 = .ok (.getfield 94, 3) := by decide +kernel
theorem dX4_add_35 : decode cX4_add 35 = .ok (.iconst 1, 1) := by decide +kernel
theorem dX4_add_36 : decode cX4_add 36 = .ok (.iadd, 1) := by decide +kernel
theorem dX4_add_37 : decode cX4_add 37 = .ok (.putfield 94, 3) := by decide +kernel
theorem dX4_add_40 : decode cX4_add 40 = .ok (.aload_n 0, 1) := by decide +kernel
theorem dX4_add_41 : decode cX4_add 41 = .ok (.getfield 94, 3) := by decide +kernel
theorem dX4_add_44 : decode cX4_add 44 = .ok (.iconst 1, 1) := by decide +kernel
theorem dX4_add_45 : decode cX4_add 45 = .ok (.isub, 1) := by decide +kernel
theorem dX4_add_46 : decode cX4_add 46 = .ok (.ireturn, 1) := by decide +kernel
theorem dX4_mineInto_0 : decode cX4_mineInto 0 = .ok (.aload_n 1, 1) := by decide +kernel
theorem dX4_mineInto_1 : decode cX4_mineInto 1 = .ok (.invokestatic 97, 3) := by decide +kernel
theorem dX4_mineInto_4 : decode cX4_mineInto 4 = .ok (.istore_n 3, 1) := by decide +kernel
theorem dX4_mineInto_5 : decode cX4_mineInto 5 = .ok (.iload_n 3, 1) := by decide +kernel
theorem dX4_mineInto_6 : decode cX4_mineInto 6 = .ok (.ifCond .ne 12, 3) := by decide +kernel
theorem dX4_mineInto_9 : decode cX4_mineInto 9 = .ok (.aload_n 0, 1) := by decide +kernel
theorem dX4_mineInto_10 : decode cX4_mineInto 10 = .ok (.iconst 0, 1) := by decide +kernel
theorem dX4_mineInto_11 : decode cX4_mineInto 11 = .ok (.iload_n 2, 1) := by decide +kernel
theorem dX4_mineInto_12 : decode cX4_mineInto 12 = .ok (.iconst 0, 1) := by decide +kernel
theorem dX4_mineInto_13 : decode cX4_mineInto 13 = .ok (.invokevirtual 101, 3) := by decide +kernel
theorem dX4_mineInto_16 : decode cX4_mineInto 16 = .ok (.pop, 1) := by decide +kernel
theorem dX4_mineInto_17 : decode cX4_mineInto 17 = .ok (.return_, 1) := by decide +kernel
theorem dX4_mineInto_18 : decode cX4_mineInto 18 = .ok (.iconst 0, 1) := by decide +kernel
theorem dX4_mineInto_19 : decode cX4_mineInto 19 = .ok (.istore 4, 2) := by decide +kernel
theorem dX4_mineInto_21 : decode cX4_mineInto 21 = .ok (.iconst 1, 1) := by decide +kernel
theorem dX4_mineInto_22 : decode cX4_mineInto 22 = .ok (.istore 5, 2) := by decide +kernel
theorem dX4_mineInto_24 : decode cX4_mineInto 24 = .ok (.aload_n 1, 1) := by decide +kernel
theorem dX4_mineInto_25 : decode cX4_mineInto 25 = .ok (.astore 6, 2) := by decide +kernel
theorem dX4_mineInto_27 : decode cX4_mineInto 27 = .ok (.aload 6, 2) := by decide +kernel
theorem dX4_mineInto_29 : decode cX4_mineInto 29 = .ok (.arraylength, 1) := by decide +kernel
theorem dX4_mineInto_30 : decode cX4_mineInto 30 = .ok (.istore 7, 2) := by decide +kernel
theorem dX4_mineInto_32 : decode cX4_mineInto 32 = .ok (.iconst 0, 1) := by decide +kernel
theorem dX4_mineInto_33 : decode cX4_mineInto 33 = .ok (.istore 8, 2) := by decide +kernel
theorem dX4_mineInto_35 : decode cX4_mineInto 35 = .ok (.iload 8, 2) := by decide +kernel
theorem dX4_mineInto_37 : decode cX4_mineInto 37 = .ok (.iload 7, 2) := by decide +kernel
theorem dX4_mineInto_39 : decode cX4_mineInto 39 = .ok (.if_icmp .ge 53, 3) := by decide +kernel
theorem dX4_mineInto_42 : decode cX4_mineInto 42 = .ok (.aload 6, 2) := by decide +kernel
theorem dX4_mineInto_44 : decode cX4_mineInto 44 = .ok (.iload 8, 2) := by decide +kernel
theorem dX4_mineInto_46 : decode cX4_mineInto 46 = .ok (.aaload, 1) := by decide +kernel
theorem dX4_mineInto_47 : decode cX4_mineInto 47 = .ok (.astore 9, 2) := by decide +kernel
theorem dX4_mineInto_49 : decode cX4_mineInto 49 = .ok (.iload 4, 2) := by decide +kernel
theorem dX4_mineInto_51 : decode cX4_mineInto 51 = .ok (.ifCond .ne 9, 3) := by decide +kernel
theorem dX4_mineInto_54 : decode cX4_mineInto 54 = .ok (.aload 9, 2) := by decide +kernel
theorem dX4_mineInto_56 : decode cX4_mineInto 56 = .ok (.arraylength, 1) := by decide +kernel
theorem dX4_mineInto_57 : decode cX4_mineInto 57 = .ok (.ifCond .ne 7, 3) := by decide +kernel
theorem dX4_mineInto_60 : decode cX4_mineInto 60 = .ok (.iconst 1, 1) := by decide +kernel
theorem dX4_mineInto_61 : decode cX4_mineInto 61 = .ok (.goto 4, 3) := by decide +kernel
theorem dX4_mineInto_64 : decode cX4_mineInto 64 = .ok (.iconst 0, 1) := by decide +kernel
theorem dX4_mineInto_65 : decode cX4_mineInto 65 = .ok (.istore 4, 2) := by decide +kernel
theorem dX4_mineInto_67 : decode cX4_mineInto 67 = .ok (.iload 5, 2) := by decide +kernel
theorem dX4_mineInto_69 : decode cX4_mineInto 69 = .ok (.ifCond .eq 14, 3) := by decide +kernel
theorem dX4_mineInto_72 : decode cX4_mineInto 72 = .ok (.aload 9, 2) := by decide +kernel
theorem dX4_mineInto_74 : decode cX4_mineInto 74 = .ok (.arraylength, 1) := by decide +kernel
theorem dX4_mineInto_75 : decode cX4_mineInto 75 = .ok (.iconst 1, 1) := by decide +kernel
theorem dX4_mineInto_76 : decode cX4_mineInto 76 = .ok (.if_icmp .ne 7, 3) := by decide +kernel
theorem dX4_mineInto_79 : decode cX4_mineInto 79 = .ok (.iconst 1, 1) := by decide +kernel
theorem dX4_mineInto_80 : decode cX4_mineInto 80 = .ok (.goto 4, 3) := by decide +kernel
theorem dX4_mineInto_83 : decode cX4_mineInto 83 = .ok (.iconst 0, 1) := by decide +kernel
theorem dX4_mineInto_84 : decode cX4_mineInto 84 = .ok (.istore 5, 2) := by decide +kernel
theorem dX4_mineInto_86 : decode cX4_mineInto 86 = .ok (.iinc 8 1, 3) := by decide +kernel
theorem dX4_mineInto_89 : decode cX4_mineInto 89 = .ok (.goto (-54), 3) := by decide +kernel
theorem dX4_mineInto_92 : decode cX4_mineInto 92 = .ok (.iload 4, 2) := by decide +kernel
theorem dX4_mineInto_94 : decode cX4_mineInto 94 = .ok (.ifCond .eq 34, 3) := by decide +kernel
theorem dX4_mineInto_97 : decode cX4_mineInto 97 = .ok (.aload_n 0, 1) := by decide +kernel
theorem dX4_mineInto_98 : decode cX4_mineInto 98 = .ok (.iconst 2, 1) := by decide +kernel
theorem dX4_mineInto_99 : decode cX4_mineInto 99 = .ok (.iload_n 2, 1) := by decide +kernel
theorem dX4_mineInto_100 : decode cX4_mineInto 100 = .ok (.iload_n 3, 1) := by decide +kernel
theorem dX4_mineInto_101 : decode cX4_mineInto 101 = .ok (.invokevirtual 101, 3) := by decide +kernel
theorem dX4_mineInto_104 : decode cX4_mineInto 104 = .ok (.istore 6, 2) := by decide +kernel
theorem dX4_mineInto_106 : decode cX4_mineInto 106 = .ok (.aload_n 0, 1) := by decide +kernel
theorem dX4_mineInto_107 : decode cX4_mineInto 107 = .ok (.iconst 0, 1) := by decide +kernel
theorem dX4_mineInto_108 : decode cX4_mineInto 108 = .ok (.iload 6, 2) := by decide +kernel
theorem dX4_mineInto_110 : decode cX4_mineInto 110 = .ok (.iconst 0, 1) := by decide +kernel
theorem dX4_mineInto_111 : decode cX4_mineInto 111 = .ok (.invokevirtual 101, 3) := by decide +kernel
theorem dX4_mineInto_114 : decode cX4_mineInto 114 = .ok (.pop, 1) := by decide +kernel
theorem dX4_mineInto_115 : decode cX4_mineInto 115 = .ok (.aload_n 0, 1) := by decide +kernel
theorem dX4_mineInto_116 : decode cX4_mineInto 116 = .ok (.aload_n 1, 1) := by decide +kernel
theorem dX4_mineInto_117 : decode cX4_mineInto 117 = .ok (.iload_n 3, 1) := by decide +kernel
theorem dX4_mineInto_118 : decode cX4_mineInto 118 = .ok (.iconst 0, 1) := by decide +kernel
theorem dX4_mineInto_119 : decode cX4_mineInto 119 = .ok (.invokestatic 105, 3) := by decide +kernel
theorem dX4_mineInto_122 : decode cX4_mineInto 122 = .ok (.iload 6, 2) := by decide +kernel
theorem dX4_mineInto_124 : decode cX4_mineInto 124 = .ok (.invokevirtual 109, 3) := by decide +kernel
theorem dX4_mineInto_127 : decode cX4_mineInto 127 = .ok (.return_, 1) := by decide +kernel
theorem dX4_mineInto_128 : decode cX4_mineInto 128 = .ok (.iload_n 3, 1) := by decide +kernel
theorem dX4_mineInto_129 : decode cX4_mineInto 129 = .ok (.invokestatic 70, 3) := by decide +kernel
theorem dX4_mineInto_132 : decode cX4_mineInto 132 = .ok (.iconst 1, 1) := by decide +kernel
theorem dX4_mineInto_133 : decode cX4_mineInto 133 = .ok (.if_icmp .ne 45, 3) := by decide +kernel
theorem dX4_mineInto_136 : decode cX4_mineInto 136 = .ok (.iload 5, 2) := by decide +kernel
theorem dX4_mineInto_138 : decode cX4_mineInto 138 = .ok (.ifCond .eq 7, 3) := by decide +kernel
theorem dX4_mineInto_141 : decode cX4_mineInto 141 = .ok (.iload_n 2, 1) := by decide +kernel
theorem dX4_mineInto_142 : decode cX4_mineInto 142 = .ok (.goto 10, 3) := by decide +kernel
theorem dX4_mineInto_145 : decode cX4_mineInto 145 = .ok (.aload_n 0, 1) := by decide +kernel
theorem dX4_mineInto_146 : decode cX4_mineInto 146 = .ok (.iconst 5, 1) := by decide +kernel
theorem dX4_mineInto_147 : decode cX4_mineInto 147 = .ok (.iload_n 2, 1) := by decide +kernel
theorem dX4_mineInto_148 : decode cX4_mineInto 148 = .ok (.iload_n 3, 1) := by decide +kernel
theorem dX4_mineInto_149 : decode cX4_mineInto 149 = .ok (.invokevirtual 101, 3) := by decide +kernel
theorem dX4_mineInto_152 : decode cX4_mineInto 152 = .ok (.istore 6, 2) := by decide +kernel
theorem dX4_mineInto_154 : decode cX4_mineInto 154 = .ok (.aload_n 0, 1) := by decide +kernel
theorem dX4_mineInto_155 : decode cX4_mineInto 155 = .ok (.iconst 1, 1) := by decide +kernel
theorem dX4_mineInto_156 : decode cX4_mineInto 156 = .ok (.iload 6, 2) := by decide +kernel
theorem dX4_mineInto_158 : decode cX4_mineInto 158 = .ok (.iload_n 3, 1) := by decide +kernel
theorem dX4_mineInto_159 : decode cX4_mineInto 159 = .ok (.invokevirtual 101, 3) := by decide +kernel
theorem dX4_mineInto_162 : decode cX4_mineInto 162 = .ok (.pop, 1) := by decide +kernel
theorem dX4_mineInto_163 : decode cX4_mineInto 163 = .ok (.iload 5, 2) := by decide +kernel
theorem dX4_mineInto_165 : decode cX4_mineInto 165 = .ok (.ifCond .ne 12, 3) := by decide +kernel
theorem dX4_mineInto_168 : decode cX4_mineInto 168 = .ok (.aload_n 0, 1) := by decide +kernel
theorem dX4_mineInto_169 : decode cX4_mineInto 169 = .ok (.iconst 0, 1) := by decide +kernel
theorem dX4_mineInto_170 : decode cX4_mineInto 170 = .ok (.iload 6, 2) := by decide +kernel
theorem dX4_mineInto_172 : decode cX4_mineInto 172 = .ok (.iconst 0, 1) := by decide +kernel
theorem dX4_mineInto_173 : decode cX4_mineInto 173 = .ok (.invokevirtual 101, 3) := by decide +kernel
theorem dX4_mineInto_176 : decode cX4_mineInto 176 = .ok (.pop, 1) := by decide +kernel
theorem dX4_mineInto_177 : decode cX4_mineInto 177 = .ok (.return_, 1) := by decide +kernel
theorem dX4_mineInto_178 : decode cX4_mineInto 178 = .ok (.aload_n 1, 1) := by decide +kernel
theorem dX4_mineInto_179 : decode cX4_mineInto 179 = .ok (.invokestatic 113, 3) := by decide +kernel
theorem dX4_mineInto_182 : decode cX4_mineInto 182 = .ok (.astore 6, 2) := by decide +kernel
theorem dX4_mineInto_184 : decode cX4_mineInto 184 = .ok (.aload_n 0, 1) := by decide +kernel
theorem dX4_mineInto_185 : decode cX4_mineInto 185 = .ok (.aload_n 1, 1) := by decide +kernel
theorem dX4_mineInto_186 : decode cX4_mineInto 186 = .ok (.iload_n 3, 1) := by decide +kernel
theorem dX4_mineInto_187 : decode cX4_mineInto 187 = .ok (.aload 6, 2) := by decide +kernel
theorem dX4_mineInto_189 : decode cX4_mineInto 189 = .ok (.iload_n 2, 1) := by decide +kernel
theorem dX4_mineInto_190 : decode cX4_mineInto 190 = .ok (.invokevirtual 117, 3) := by decide +kernel
theorem dX4_mineInto_193 : decode cX4_mineInto 193 = .ok (.ifCond .ne 48, 3) := by decide +kernel
theorem dX4_mineInto_196 : decode cX4_mineInto 196 = .ok (.aload_n 0, 1) := by decide +kernel
theorem dX4_mineInto_197 : decode cX4_mineInto 197 = .ok (.aload_n 1, 1) := by decide +kernel
theorem dX4_mineInto_198 : decode cX4_mineInto 198 = .ok (.iload_n 3, 1) := by decide +kernel
theorem dX4_mineInto_199 : decode cX4_mineInto 199 = .ok (.aload 6, 2) := by decide +kernel
theorem dX4_mineInto_201 : decode cX4_mineInto 201 = .ok (.iload_n 2, 1) := by decide +kernel
theorem dX4_mineInto_202 : decode cX4_mineInto 202 = .ok (.invokevirtual 121, 3) := by decide +kernel
theorem dX4_mineInto_205 : decode cX4_mineInto 205 = .ok (.ifCond .ne 36, 3) := by decide +kernel
theorem dX4_mineInto_208 : decode cX4_mineInto 208 = .ok (.aload_n 0, 1) := by decide +kernel
theorem dX4_mineInto_209 : decode cX4_mineInto 209 = .ok (.aload_n 1, 1) := by decide +kernel
theorem dX4_mineInto_210 : decode cX4_mineInto 210 = .ok (.iload_n 3, 1) := by decide +kernel
theorem dX4_mineInto_211 : decode cX4_mineInto 211 = .ok (.aload 6, 2) := by decide +kernel
theorem dX4_mineInto_213 : decode cX4_mineInto 213 = .ok (.iload_n 2, 1) := by decide +kernel
theorem dX4_mineInto_214 : decode cX4_mineInto 214 = .ok (.invokevirtual 124, 3) := by decide +kernel
theorem dX4_mineInto_217 : decode cX4_mineInto 217 = .ok (.ifCond .ne 24, 3) := by decide +kernel
theorem dX4_mineInto_220 : decode cX4_mineInto 220 = .ok (.aload_n 0, 1) := by decide +kernel
theorem dX4_mineInto_221 : decode cX4_mineInto 221 = .ok (.aload_n 1, 1) := by decide +kernel
theorem dX4_mineInto_222 : decode cX4_mineInto 222 = .ok (.iload_n 3, 1) := by decide +kernel
theorem dX4_mineInto_223 : decode cX4_mineInto 223 = .ok (.aload 6, 2) := by decide +kernel
theorem dX4_mineInto_225 : decode cX4_mineInto 225 = .ok (.iload_n 2, 1) := by decide +kernel
theorem dX4_mineInto_226 : decode cX4_mineInto 226 = .ok (.invokevirtual 127, 3) := by decide +kernel
theorem dX4_mineInto_229 : decode cX4_mineInto 229 = .ok (.ifCond .ne 12, 3) := by decide +kernel
theorem dX4_mineInto_232 : decode cX4_mineInto 232 = .ok (.aload_n 0, 1) := by decide +kernel
theorem dX4_mineInto_233 : decode cX4_mineInto 233 = .ok (.bipush 6, 2) := by decide +kernel
theorem dX4_mineInto_235 : decode cX4_mineInto 235 = .ok (.iload_n 2, 1) := by decide +kernel
theorem dX4_mineInto_236 : decode cX4_mineInto 236 = .ok (.iload_n 3, 1) := by decide +kernel
theorem dX4_mineInto_237 : decode cX4_mineInto 237 = .ok (.invokevirtual 101, 3) := by decide +kernel
theorem dX4_mineInto_240 : decode cX4_mineInto 240 = .ok (.pop, 1) := by decide +kernel
theorem dX4_mineInto_241 : decode cX4_mineInto 241 = .ok (.return_, 1) := by decide +kernel
theorem dX4_mineChoice_0 : decode cX4_mineChoice 0 = .ok (.iload_n 2, 1) := by decide +kernel
theorem dX4_mineChoice_1 : decode cX4_mineChoice 1 = .ok (.aload_n 3, 1) := by decide +kernel
theorem dX4_mineChoice_2 : decode cX4_mineChoice 2 = .ok (.invokestatic 130, 3) := by decide +kernel
theorem dX4_mineChoice_5 : decode cX4_mineChoice 5 = .ok (.astore 5, 2) := by decide +kernel
theorem dX4_mineChoice_7 : decode cX4_mineChoice 7 = .ok (.aload 5, 2) := by decide +kernel
theorem dX4_mineChoice_9 : decode cX4_mineChoice 9 = .ok (.arraylength, 1) := by decide +kernel
theorem dX4_mineChoice_10 : decode cX4_mineChoice 10 = .ok (.iconst 2, 1) := by decide +kernel
theorem dX4_mineChoice_11 : decode cX4_mineChoice 11 = .ok (.if_icmp .ge 5, 3) := by decide +kernel
theorem dX4_mineChoice_14 : decode cX4_mineChoice 14 = .ok (.iconst 0, 1) := by decide +kernel
theorem dX4_mineChoice_15 : decode cX4_mineChoice 15 = .ok (.ireturn, 1) := by decide +kernel
theorem dX4_mineChoice_16 : decode cX4_mineChoice 16 = .ok (.aload_n 0, 1) := by decide +kernel
theorem dX4_mineChoice_17 : decode cX4_mineChoice 17 = .ok (.iconst 2, 1) := by decide +kernel
theorem dX4_mineChoice_18 : decode cX4_mineChoice 18 = .ok (.iload 4, 2) := by decide +kernel
theorem dX4_mineChoice_20 : decode cX4_mineChoice 20 = .ok (.iload_n 2, 1) := by decide +kernel
theorem dX4_mineChoice_21 : decode cX4_mineChoice 21 = .ok (.invokevirtual 101, 3) := by decide +kernel
theorem dX4_mineChoice_24 : decode cX4_mineChoice 24 = .ok (.istore 6, 2) := by decide +kernel
theorem dX4_mineChoice_26 : decode cX4_mineChoice 26 = .ok (.aload 5, 2) := by decide +kernel
theorem dX4_mineChoice_28 : decode cX4_mineChoice 28 = .ok (.astore 7, 2) := by decide +kernel
theorem dX4_mineChoice_30 : decode cX4_mineChoice 30 = .ok (.aload 7, 2) := by decide +kernel
theorem dX4_mineChoice_32 : decode cX4_mineChoice 32 = .ok (.arraylength, 1) := by decide +kernel
theorem dX4_mineChoice_33 : decode cX4_mineChoice 33 = .ok (.istore 8, 2) := by decide +kernel
theorem dX4_mineChoice_35 : decode cX4_mineChoice 35 = .ok (.iconst 0, 1) := by decide +kernel
theorem dX4_mineChoice_36 : decode cX4_mineChoice 36 = .ok (.istore 9, 2) := by decide +kernel
theorem dX4_mineChoice_38 : decode cX4_mineChoice 38 = .ok (.iload 9, 2) := by decide +kernel
theorem dX4_mineChoice_40 : decode cX4_mineChoice 40 = .ok (.iload 8, 2) := by decide +kernel
theorem dX4_mineChoice_42 : decode cX4_mineChoice 42 = .ok (.if_icmp .ge 29, 3) := by decide +kernel
theorem dX4_mineChoice_45 : decode cX4_mineChoice 45 = .ok (.aload 7, 2) := by decide +kernel
theorem dX4_mineChoice_47 : decode cX4_mineChoice 47 = .ok (.iload 9, 2) := by decide +kernel
theorem dX4_mineChoice_49 : decode cX4_mineChoice 49 = .ok (.iaload, 1) := by decide +kernel
theorem dX4_mineChoice_50 : decode cX4_mineChoice 50 = .ok (.istore 10, 2) := by decide +kernel
theorem dX4_mineChoice_52 : decode cX4_mineChoice 52 = .ok (.aload_n 0, 1) := by decide +kernel
theorem dX4_mineChoice_53 : decode cX4_mineChoice 53 = .ok (.aload_n 1, 1) := by decide +kernel
theorem dX4_mineChoice_54 : decode cX4_mineChoice 54 = .ok (.iload 10, 2) := by decide +kernel
theorem dX4_mineChoice_56 : decode cX4_mineChoice 56 = .ok (.iconst 0, 1) := by decide +kernel
theorem dX4_mineChoice_57 : decode cX4_mineChoice 57 = .ok (.invokestatic 105, 3) := by decide +kernel
theorem dX4_mineChoice_60 : decode cX4_mineChoice 60 = .ok (.iload 6, 2) := by decide +kernel
theorem dX4_mineChoice_62 : decode cX4_mineChoice 62 = .ok (.invokevirtual 109, 3) := by decide +kernel
theorem dX4_mineChoice_65 : decode cX4_mineChoice 65 = .ok (.iinc 9 1, 3) := by decide +kernel
theorem dX4_mineChoice_68 : decode cX4_mineChoice 68 = .ok (.goto (-30), 3) := by decide +kernel
theorem dX4_mineChoice_71 : decode cX4_mineChoice 71 = .ok (.iconst 1, 1) := by decide +kernel
theorem dX4_mineChoice_72 : decode cX4_mineChoice 72 = .ok (.ireturn, 1) := by decide +kernel
theorem dX4_mineOrder_0 : decode cX4_mineOrder 0 = .ok (.aload_n 3, 1) := by decide +kernel
theorem dX4_mineOrder_1 : decode cX4_mineOrder 1 = .ok (.invokevirtual 134, 3) := by decide +kernel
theorem dX4_mineOrder_4 : decode cX4_mineOrder 4 = .ok (.checkcast 84, 3) := by decide +kernel
theorem dX4_mineOrder_7 : decode cX4_mineOrder 7 = .ok (.astore 5, 2) := by decide +kernel
theorem dX4_mineOrder_9 : decode cX4_mineOrder 9 = .ok (.iconst 0, 1) := by decide +kernel
theorem dX4_mineOrder_10 : decode cX4_mineOrder 10 = .ok (.istore 6, 2) := by decide +kernel
theorem dX4_mineOrder_12 : decode cX4_mineOrder 12 = .ok (.iload 6, 2) := by decide +kernel
theorem dX4_mineOrder_14 : decode cX4_mineOrder 14 = .ok (.bipush 8, 2) := by decide +kernel
theorem dX4_mineOrder_16 : decode cX4_mineOrder 16 = .ok (.if_icmp .ge 51, 3) := by decide +kernel
theorem dX4_mineOrder_19 : decode cX4_mineOrder 19 = .ok (.iconst 0, 1) := by decide +kernel
theorem dX4_mineOrder_20 : decode cX4_mineOrder 20 = .ok (.istore 7, 2) := by decide +kernel
theorem dX4_mineOrder_22 : decode cX4_mineOrder 22 = .ok (.iload 7, 2) := by decide +kernel
theorem dX4_mineOrder_24 : decode cX4_mineOrder 24 = .ok (.bipush 8, 2) := by decide +kernel
theorem dX4_mineOrder_26 : decode cX4_mineOrder 26 = .ok (.if_icmp .ge 35, 3) := by decide +kernel
theorem dX4_mineOrder_29 : decode cX4_mineOrder 29 = .ok (.aload 5, 2) := by decide +kernel
theorem dX4_mineOrder_31 : decode cX4_mineOrder 31 = .ok (.iload 7, 2) := by decide +kernel
theorem dX4_mineOrder_33 : decode cX4_mineOrder 33 = .ok (.iaload, 1) := by decide +kernel
theorem dX4_mineOrder_34 : decode cX4_mineOrder 34 = .ok (.iload 6, 2) := by decide +kernel
theorem dX4_mineOrder_36 : decode cX4_mineOrder 36 = .ok (.invokestatic 66, 3) := by decide +kernel
theorem dX4_mineOrder_39 : decode cX4_mineOrder 39 = .ok (.ifCond .eq 16, 3) := by decide +kernel
theorem dX4_mineOrder_42 : decode cX4_mineOrder 42 = .ok (.aload 5, 2) := by decide +kernel
theorem dX4_mineOrder_44 : decode cX4_mineOrder 44 = .ok (.iload 7, 2) := by decide +kernel
theorem dX4_mineOrder_46 : decode cX4_mineOrder 46 = .ok (.dup2, 1) := by decide +kernel
theorem dX4_mineOrder_47 : decode cX4_mineOrder 47 = .ok (.iaload, 1) := by decide +kernel
theorem dX4_mineOrder_48 : decode cX4_mineOrder 48 = .ok (.aload 5, 2) := by decide +kernel
theorem dX4_mineOrder_50 : decode cX4_mineOrder 50 = .ok (.iload 6, 2) := by decide +kernel
theorem dX4_mineOrder_52 : decode cX4_mineOrder 52 = .ok (.iaload, 1) := by decide +kernel
theorem dX4_mineOrder_53 : decode cX4_mineOrder 53 = .ok (.ior, 1) := by decide +kernel
theorem dX4_mineOrder_54 : decode cX4_mineOrder 54 = .ok (.iastore, 1) := by decide +kernel
theorem dX4_mineOrder_55 : decode cX4_mineOrder 55 = .ok (.iinc 7 1, 3) := by decide +kernel
theorem dX4_mineOrder_58 : decode cX4_mineOrder 58 = .ok (.goto (-36), 3) := by decide +kernel
theorem dX4_mineOrder_61 : decode cX4_mineOrder 61 = .ok (.iinc 6 1, 3) := by decide +kernel
theorem dX4_mineOrder_64 : decode cX4_mineOrder 64 = .ok (.goto (-52), 3) := by decide +kernel
theorem dX4_mineOrder_67 : decode cX4_mineOrder 67 = .ok (.bipush 8, 2) := by decide +kernel
theorem dX4_mineOrder_69 : decode cX4_mineOrder 69 = .ok (.newarray .int, 2) := by decide +kernel
theorem dX4_mineOrder_71 : decode cX4_mineOrder 71 = .ok (.astore 6, 2) := by decide +kernel
theorem dX4_mineOrder_73 : decode cX4_mineOrder 73 = .ok (.iconst 0, 1) := by decide +kernel
theorem dX4_mineOrder_74 : decode cX4_mineOrder 74 = .ok (.istore 7, 2) := by decide +kernel
theorem dX4_mineOrder_76 : decode cX4_mineOrder 76 = .ok (.iload 7, 2) := by decide +kernel
theorem dX4_mineOrder_78 : decode cX4_mineOrder 78 = .ok (.bipush 8, 2) := by decide +kernel
theorem dX4_mineOrder_80 : decode cX4_mineOrder 80 = .ok (.if_icmp .ge 60, 3) := by decide +kernel
theorem dX4_mineOrder_83 : decode cX4_mineOrder 83 = .ok (.iconst 0, 1) := by decide +kernel
theorem dX4_mineOrder_84 : decode cX4_mineOrder 84 = .ok (.istore 8, 2) := by decide +kernel
theorem dX4_mineOrder_86 : decode cX4_mineOrder 86 = .ok (.iload 8, 2) := by decide +kernel
theorem dX4_mineOrder_88 : decode cX4_mineOrder 88 = .ok (.bipush 8, 2) := by decide +kernel
theorem dX4_mineOrder_90 : decode cX4_mineOrder 90 = .ok (.if_icmp .ge 44, 3) := by decide +kernel
theorem dX4_mineOrder_93 : decode cX4_mineOrder 93 = .ok (.aload 5, 2) := by decide +kernel
theorem dX4_mineOrder_95 : decode cX4_mineOrder 95 = .ok (.iload 7, 2) := by decide +kernel
theorem dX4_mineOrder_97 : decode cX4_mineOrder 97 = .ok (.iaload, 1) := by decide +kernel
theorem dX4_mineOrder_98 : decode cX4_mineOrder 98 = .ok (.iload 8, 2) := by decide +kernel
theorem dX4_mineOrder_100 : decode cX4_mineOrder 100 = .ok (.invokestatic 66, 3) := by decide +kernel
theorem dX4_mineOrder_103 : decode cX4_mineOrder 103 = .ok (.aload 5, 2) := by decide +kernel
theorem dX4_mineOrder_105 : decode cX4_mineOrder 105 = .ok (.iload 8, 2) := by decide +kernel
theorem dX4_mineOrder_107 : decode cX4_mineOrder 107 = .ok (.iaload, 1) := by decide +kernel
theorem dX4_mineOrder_108 : decode cX4_mineOrder 108 = .ok (.iload 7, 2) := by decide +kernel
theorem dX4_mineOrder_110 : decode cX4_mineOrder 110 = .ok (.invokestatic 66, 3) := by decide +kernel
theorem dX4_mineOrder_113 : decode cX4_mineOrder 113 = .ok (.if_icmp .ne 15, 3) := by decide +kernel
theorem dX4_mineOrder_116 : decode cX4_mineOrder 116 = .ok (.aload 6, 2) := by decide +kernel
theorem dX4_mineOrder_118 : decode cX4_mineOrder 118 = .ok (.iload 7, 2) := by decide +kernel
theorem dX4_mineOrder_120 : decode cX4_mineOrder 120 = .ok (.dup2, 1) := by decide +kernel
theorem dX4_mineOrder_121 : decode cX4_mineOrder 121 = .ok (.iaload, 1) := by decide +kernel
theorem dX4_mineOrder_122 : decode cX4_mineOrder 122 = .ok (.iconst 1, 1) := by decide +kernel
theorem dX4_mineOrder_123 : decode cX4_mineOrder 123 = .ok (.iload 8, 2) := by decide +kernel
theorem dX4_mineOrder_125 : decode cX4_mineOrder 125 = .ok (.ishl, 1) := by decide +kernel
theorem dX4_mineOrder_126 : decode cX4_mineOrder 126 = .ok (.ior, 1) := by decide +kernel
theorem dX4_mineOrder_127 : decode cX4_mineOrder 127 = .ok (.iastore, 1) := by decide +kernel
theorem dX4_mineOrder_128 : decode cX4_mineOrder 128 = .ok (.iinc 8 1, 3) := by decide +kernel
theorem dX4_mineOrder_131 : decode cX4_mineOrder 131 = .ok (.goto (-45), 3) := by decide +kernel
theorem dX4_mineOrder_134 : decode cX4_mineOrder 134 = .ok (.iinc 7 1, 3) := by decide +kernel
theorem dX4_mineOrder_137 : decode cX4_mineOrder 137 = .ok (.goto (-61), 3) := by decide +kernel
theorem dX4_mineOrder_140 : decode cX4_mineOrder 140 = .ok (.iload_n 2, 1) := by decide +kernel
theorem dX4_mineOrder_141 : decode cX4_mineOrder 141 = .ok (.aload 6, 2) := by decide +kernel
theorem dX4_mineOrder_143 : decode cX4_mineOrder 143 = .ok (.invokestatic 130, 3) := by decide +kernel
theorem dX4_mineOrder_146 : decode cX4_mineOrder 146 = .ok (.astore 7, 2) := by decide +kernel
theorem dX4_mineOrder_148 : decode cX4_mineOrder 148 = .ok (.aload 7, 2) := by decide +kernel
theorem dX4_mineOrder_150 : decode cX4_mineOrder 150 = .ok (.arraylength, 1) := by decide +kernel
theorem dX4_mineOrder_151 : decode cX4_mineOrder 151 = .ok (.iconst 2, 1) := by decide +kernel
theorem dX4_mineOrder_152 : decode cX4_mineOrder 152 = .ok (.if_icmp .ge 5, 3) := by decide +kernel
theorem dX4_mineOrder_155 : decode cX4_mineOrder 155 = .ok (.iconst 0, 1) := by decide +kernel
theorem dX4_mineOrder_156 : decode cX4_mineOrder 156 = .ok (.ireturn, 1) := by decide +kernel
theorem dX4_mineOrder_157 : decode cX4_mineOrder 157 = .ok (.aload_n 0, 1) := by decide +kernel
theorem dX4_mineOrder_158 : decode cX4_mineOrder 158 = .ok (.iconst 3, 1) := by decide +kernel
theorem dX4_mineOrder_159 : decode cX4_mineOrder 159 = .ok (.iload 4, 2) := by decide +kernel
theorem dX4_mineOrder_161 : decode cX4_mineOrder 161 = .ok (.iload_n 2, 1) := by decide +kernel
theorem dX4_mineOrder_162 : decode cX4_mineOrder 162 = .ok (.invokevirtual 101, 3) := by decide +kernel
theorem dX4_mineOrder_165 : decode cX4_mineOrder 165 = .ok (.istore 8, 2) := by decide +kernel
theorem dX4_mineOrder_167 : decode cX4_mineOrder 167 = .ok (.iconst 0, 1) := by decide +kernel
theorem dX4_mineOrder_168 : decode cX4_mineOrder 168 = .ok (.istore 9, 2) := by decide +kernel
theorem dX4_mineOrder_170 : decode cX4_mineOrder 170 = .ok (.iload 9, 2) := by decide +kernel
theorem dX4_mineOrder_172 : decode cX4_mineOrder 172 = .ok (.aload 7, 2) := by decide +kernel
theorem dX4_mineOrder_174 : decode cX4_mineOrder 174 = .ok (.arraylength, 1) := by decide +kernel
theorem dX4_mineOrder_175 : decode cX4_mineOrder 175 = .ok (.if_icmp .ge 132, 3) := by decide +kernel
theorem dX4_mineOrder_178 : decode cX4_mineOrder 178 = .ok (.aload 7, 2) := by decide +kernel
theorem dX4_mineOrder_180 : decode cX4_mineOrder 180 = .ok (.astore 10, 2) := by decide +kernel
theorem dX4_mineOrder_182 : decode cX4_mineOrder 182 = .ok (.aload 10, 2) := by decide +kernel
theorem dX4_mineOrder_184 : decode cX4_mineOrder 184 = .ok (.arraylength, 1) := by decide +kernel
theorem dX4_mineOrder_185 : decode cX4_mineOrder 185 = .ok (.istore 11, 2) := by decide +kernel
theorem dX4_mineOrder_187 : decode cX4_mineOrder 187 = .ok (.iconst 0, 1) := by decide +kernel
theorem dX4_mineOrder_188 : decode cX4_mineOrder 188 = .ok (.istore 12, 2) := by decide +kernel
theorem dX4_mineOrder_190 : decode cX4_mineOrder 190 = .ok (.iload 12, 2) := by decide +kernel
theorem dX4_mineOrder_192 : decode cX4_mineOrder 192 = .ok (.iload 11, 2) := by decide +kernel
theorem dX4_mineOrder_194 : decode cX4_mineOrder 194 = .ok (.if_icmp .ge 107, 3) := by decide +kernel
theorem dX4_mineOrder_197 : decode cX4_mineOrder 197 = .ok (.aload 10, 2) := by decide +kernel
theorem dX4_mineOrder_199 : decode cX4_mineOrder 199 = .ok (.iload 12, 2) := by decide +kernel
theorem dX4_mineOrder_201 : decode cX4_mineOrder 201 = .ok (.iaload, 1) := by decide +kernel
theorem dX4_mineOrder_202 : decode cX4_mineOrder 202 = .ok (.istore 13, 2) := by decide +kernel
theorem dX4_mineOrder_204 : decode cX4_mineOrder 204 = .ok (.iconst 0, 1) := by decide +kernel
theorem dX4_mineOrder_205 : decode cX4_mineOrder 205 = .ok (.istore 14, 2) := by decide +kernel
theorem dX4_mineOrder_207 : decode cX4_mineOrder 207 = .ok (.aload 7, 2) := by decide +kernel
theorem dX4_mineOrder_209 : decode cX4_mineOrder 209 = .ok (.astore 15, 2) := by decide +kernel
theorem dX4_mineOrder_211 : decode cX4_mineOrder 211 = .ok (.aload 15, 2) := by decide +kernel
theorem dX4_mineOrder_213 : decode cX4_mineOrder 213 = .ok (.arraylength, 1) := by decide +kernel
theorem dX4_mineOrder_214 : decode cX4_mineOrder 214 = .ok (.istore 16, 2) := by decide +kernel
theorem dX4_mineOrder_216 : decode cX4_mineOrder 216 = .ok (.iconst 0, 1) := by decide +kernel
theorem dX4_mineOrder_217 : decode cX4_mineOrder 217 = .ok (.istore 17, 2) := by decide +kernel
theorem dX4_mineOrder_219 : decode cX4_mineOrder 219 = .ok (.iload 17, 2) := by decide +kernel
theorem dX4_mineOrder_221 : decode cX4_mineOrder 221 = .ok (.iload 16, 2) := by decide +kernel
theorem dX4_mineOrder_223 : decode cX4_mineOrder 223 = .ok (.if_icmp .ge 52, 3) := by decide +kernel
theorem dX4_mineOrder_226 : decode cX4_mineOrder 226 = .ok (.aload 15, 2) := by decide +kernel
theorem dX4_mineOrder_228 : decode cX4_mineOrder 228 = .ok (.iload 17, 2) := by decide +kernel
theorem dX4_mineOrder_230 : decode cX4_mineOrder 230 = .ok (.iaload, 1) := by decide +kernel
theorem dX4_mineOrder_231 : decode cX4_mineOrder 231 = .ok (.istore 18, 2) := by decide +kernel
theorem dX4_mineOrder_233 : decode cX4_mineOrder 233 = .ok (.iload 14, 2) := by decide +kernel
theorem dX4_mineOrder_235 : decode cX4_mineOrder 235 = .ok (.iload 18, 2) := by decide +kernel
theorem dX4_mineOrder_237 : decode cX4_mineOrder 237 = .ok (.iload 13, 2) := by decide +kernel
theorem dX4_mineOrder_239 : decode cX4_mineOrder 239 = .ok (.if_icmp .eq 26, 3) := by decide +kernel
theorem dX4_mineOrder_242 : decode cX4_mineOrder 242 = .ok (.aload 5, 2) := by decide +kernel
theorem dX4_mineOrder_244 : decode cX4_mineOrder 244 = .ok (.iload 18, 2) := by decide +kernel
theorem dX4_mineOrder_246 : decode cX4_mineOrder 246 = .ok (.invokestatic 138, 3) := by decide +kernel
theorem dX4_mineOrder_249 : decode cX4_mineOrder 249 = .ok (.iaload, 1) := by decide +kernel
theorem dX4_mineOrder_250 : decode cX4_mineOrder 250 = .ok (.iload 13, 2) := by decide +kernel
theorem dX4_mineOrder_252 : decode cX4_mineOrder 252 = .ok (.invokestatic 138, 3) := by decide +kernel
theorem dX4_mineOrder_255 : decode cX4_mineOrder 255 = .ok (.invokestatic 66, 3) := by decide +kernel
theorem dX4_mineOrder_258 : decode cX4_mineOrder 258 = .ok (.ifCond .eq 7, 3) := by decide +kernel
theorem dX4_mineOrder_261 : decode cX4_mineOrder 261 = .ok (.iconst 1, 1) := by decide +kernel
theorem dX4_mineOrder_262 : decode cX4_mineOrder 262 = .ok (.goto 4, 3) := by decide +kernel
theorem dX4_mineOrder_265 : decode cX4_mineOrder 265 = .ok (.iconst 0, 1) := by decide +kernel
theorem dX4_mineOrder_266 : decode cX4_mineOrder 266 = .ok (.iadd, 1) := by decide +kernel
theorem dX4_mineOrder_267 : decode cX4_mineOrder 267 = .ok (.istore 14, 2) := by decide +kernel
theorem dX4_mineOrder_269 : decode cX4_mineOrder 269 = .ok (.iinc 17 1, 3) := by decide +kernel
theorem dX4_mineOrder_272 : decode cX4_mineOrder 272 = .ok (.goto (-53), 3) := by decide +kernel
theorem dX4_mineOrder_275 : decode cX4_mineOrder 275 = .ok (.iload 14, 2) := by decide +kernel
theorem dX4_mineOrder_277 : decode cX4_mineOrder 277 = .ok (.iload 9, 2) := by decide +kernel
theorem dX4_mineOrder_279 : decode cX4_mineOrder 279 = .ok (.if_icmp .ne 16, 3) := by decide +kernel
theorem dX4_mineOrder_282 : decode cX4_mineOrder 282 = .ok (.aload_n 0, 1) := by decide +kernel
theorem dX4_mineOrder_283 : decode cX4_mineOrder 283 = .ok (.aload_n 1, 1) := by decide +kernel
theorem dX4_mineOrder_284 : decode cX4_mineOrder 284 = .ok (.iload 13, 2) := by decide +kernel
theorem dX4_mineOrder_286 : decode cX4_mineOrder 286 = .ok (.iconst 1, 1) := by decide +kernel
theorem dX4_mineOrder_287 : decode cX4_mineOrder 287 = .ok (.invokestatic 105, 3) := by decide +kernel
theorem dX4_mineOrder_290 : decode cX4_mineOrder 290 = .ok (.iload 8, 2) := by decide +kernel
theorem dX4_mineOrder_292 : decode cX4_mineOrder 292 = .ok (.invokevirtual 109, 3) := by decide +kernel
theorem dX4_mineOrder_295 : decode cX4_mineOrder 295 = .ok (.iinc 12 1, 3) := by decide +kernel
theorem dX4_mineOrder_298 : decode cX4_mineOrder 298 = .ok (.goto (-108), 3) := by decide +kernel
theorem dX4_mineOrder_301 : decode cX4_mineOrder 301 = .ok (.iinc 9 1, 3) := by decide +kernel
theorem dX4_mineOrder_304 : decode cX4_mineOrder 304 = .ok (.goto (-134), 3) := by decide +kernel
theorem dX4_mineOrder_307 : decode cX4_mineOrder 307 = .ok (.iconst 1, 1) := by decide +kernel
theorem dX4_mineOrder_308 : decode cX4_mineOrder 308 = .ok (.ireturn, 1) := by decide +kernel
theorem dX4_mineBoth_0 : decode cX4_mineBoth 0 = .ok (.bipush 8, 2) := by decide +kernel
theorem dX4_mineBoth_2 : decode cX4_mineBoth 2 = .ok (.newarray .int, 2) := by decide +kernel
theorem dX4_mineBoth_4 : decode cX4_mineBoth 4 = .ok (.astore 5, 2) := by decide +kernel
theorem dX4_mineBoth_6 : decode cX4_mineBoth 6 = .ok (.iconst 0, 1) := by decide +kernel
theorem dX4_mineBoth_7 : decode cX4_mineBoth 7 = .ok (.istore 6, 2) := by decide +kernel
theorem dX4_mineBoth_9 : decode cX4_mineBoth 9 = .ok (.iload 6, 2) := by decide +kernel
theorem dX4_mineBoth_11 : decode cX4_mineBoth 11 = .ok (.bipush 8, 2) := by decide +kernel
theorem dX4_mineBoth_13 : decode cX4_mineBoth 13 = .ok (.if_icmp .ge 61, 3) := by decide +kernel
theorem dX4_mineBoth_16 : decode cX4_mineBoth 16 = .ok (.iconst 0, 1) := by decide +kernel
theorem dX4_mineBoth_17 : decode cX4_mineBoth 17 = .ok (.istore 7, 2) := by decide +kernel
theorem dX4_mineBoth_19 : decode cX4_mineBoth 19 = .ok (.iload 7, 2) := by decide +kernel
theorem dX4_mineBoth_21 : decode cX4_mineBoth 21 = .ok (.bipush 8, 2) := by decide +kernel
theorem dX4_mineBoth_23 : decode cX4_mineBoth 23 = .ok (.if_icmp .ge 45, 3) := by decide +kernel
theorem dX4_mineBoth_26 : decode cX4_mineBoth 26 = .ok (.aload_n 3, 1) := by decide +kernel
theorem dX4_mineBoth_27 : decode cX4_mineBoth 27 = .ok (.iload 6, 2) := by decide +kernel
theorem dX4_mineBoth_29 : decode cX4_mineBoth 29 = .ok (.iaload, 1) := by decide +kernel
theorem dX4_mineBoth_30 : decode cX4_mineBoth 30 = .ok (.iload 7, 2) := by decide +kernel
theorem dX4_mineBoth_32 : decode cX4_mineBoth 32 = .ok (.invokestatic 66, 3) := by decide +kernel
theorem dX4_mineBoth_35 : decode cX4_mineBoth 35 = .ok (.ifCond .eq 15, 3) := by decide +kernel
theorem dX4_mineBoth_38 : decode cX4_mineBoth 38 = .ok (.aload_n 3, 1) := by decide +kernel
theorem dX4_mineBoth_39 : decode cX4_mineBoth 39 = .ok (.iload 7, 2) := by decide +kernel
theorem dX4_mineBoth_41 : decode cX4_mineBoth 41 = .ok (.iaload, 1) := by decide +kernel
theorem dX4_mineBoth_42 : decode cX4_mineBoth 42 = .ok (.iload 6, 2) := by decide +kernel
theorem dX4_mineBoth_44 : decode cX4_mineBoth 44 = .ok (.invokestatic 66, 3) := by decide +kernel
theorem dX4_mineBoth_47 : decode cX4_mineBoth 47 = .ok (.ifCond .ne 15, 3) := by decide +kernel
theorem dX4_mineBoth_50 : decode cX4_mineBoth 50 = .ok (.aload 5, 2) := by decide +kernel
theorem dX4_mineBoth_52 : decode cX4_mineBoth 52 = .ok (.iload 6, 2) := by decide +kernel
theorem dX4_mineBoth_54 : decode cX4_mineBoth 54 = .ok (.dup2, 1) := by decide +kernel
theorem dX4_mineBoth_55 : decode cX4_mineBoth 55 = .ok (.iaload, 1) := by decide +kernel
theorem dX4_mineBoth_56 : decode cX4_mineBoth 56 = .ok (.iconst 1, 1) := by decide +kernel
theorem dX4_mineBoth_57 : decode cX4_mineBoth 57 = .ok (.iload 7, 2) := by decide +kernel
theorem dX4_mineBoth_59 : decode cX4_mineBoth 59 = .ok (.ishl, 1) := by decide +kernel
theorem dX4_mineBoth_60 : decode cX4_mineBoth 60 = .ok (.ior, 1) := by decide +kernel
theorem dX4_mineBoth_61 : decode cX4_mineBoth 61 = .ok (.iastore, 1) := by decide +kernel
theorem dX4_mineBoth_62 : decode cX4_mineBoth 62 = .ok (.iinc 7 1, 3) := by decide +kernel
theorem dX4_mineBoth_65 : decode cX4_mineBoth 65 = .ok (.goto (-46), 3) := by decide +kernel
theorem dX4_mineBoth_68 : decode cX4_mineBoth 68 = .ok (.iinc 6 1, 3) := by decide +kernel
theorem dX4_mineBoth_71 : decode cX4_mineBoth 71 = .ok (.goto (-62), 3) := by decide +kernel
theorem dX4_mineBoth_74 : decode cX4_mineBoth 74 = .ok (.iload_n 2, 1) := by decide +kernel
theorem dX4_mineBoth_75 : decode cX4_mineBoth 75 = .ok (.aload 5, 2) := by decide +kernel
theorem dX4_mineBoth_77 : decode cX4_mineBoth 77 = .ok (.invokestatic 130, 3) := by decide +kernel
theorem dX4_mineBoth_80 : decode cX4_mineBoth 80 = .ok (.astore 6, 2) := by decide +kernel
theorem dX4_mineBoth_82 : decode cX4_mineBoth 82 = .ok (.aload_n 1, 1) := by decide +kernel
theorem dX4_mineBoth_83 : decode cX4_mineBoth 83 = .ok (.iconst 0, 1) := by decide +kernel
theorem dX4_mineBoth_84 : decode cX4_mineBoth 84 = .ok (.invokestatic 141, 3) := by decide +kernel
theorem dX4_mineBoth_87 : decode cX4_mineBoth 87 = .ok (.istore 7, 2) := by decide +kernel
theorem dX4_mineBoth_89 : decode cX4_mineBoth 89 = .ok (.aload_n 1, 1) := by decide +kernel
theorem dX4_mineBoth_90 : decode cX4_mineBoth 90 = .ok (.iconst 1, 1) := by decide +kernel
theorem dX4_mineBoth_91 : decode cX4_mineBoth 91 = .ok (.invokestatic 141, 3) := by decide +kernel
theorem dX4_mineBoth_94 : decode cX4_mineBoth 94 = .ok (.istore 8, 2) := by decide +kernel
theorem dX4_mineBoth_96 : decode cX4_mineBoth 96 = .ok (.aload 6, 2) := by decide +kernel
theorem dX4_mineBoth_98 : decode cX4_mineBoth 98 = .ok (.arraylength, 1) := by decide +kernel
theorem dX4_mineBoth_99 : decode cX4_mineBoth 99 = .ok (.istore 9, 2) := by decide +kernel
theorem dX4_mineBoth_101 : decode cX4_mineBoth 101 = .ok (.iconst 0, 1) := by decide +kernel
theorem dX4_mineBoth_102 : decode cX4_mineBoth 102 = .ok (.istore 10, 2) := by decide +kernel
theorem dX4_mineBoth_104 : decode cX4_mineBoth 104 = .ok (.iload 9, 2) := by decide +kernel
theorem dX4_mineBoth_106 : decode cX4_mineBoth 106 = .ok (.iconst 1, 1) := by decide +kernel
theorem dX4_mineBoth_107 : decode cX4_mineBoth 107 = .ok (.if_icmp .le 140, 3) := by decide +kernel
theorem dX4_mineBoth_110 : decode cX4_mineBoth 110 = .ok (.iload 10, 2) := by decide +kernel
theorem dX4_mineBoth_112 : decode cX4_mineBoth 112 = .ok (.iload 9, 2) := by decide +kernel
theorem dX4_mineBoth_114 : decode cX4_mineBoth 114 = .ok (.if_icmp .ge 133, 3) := by decide +kernel
theorem dX4_mineBoth_117 : decode cX4_mineBoth 117 = .ok (.iconst 0, 1) := by decide +kernel
theorem dX4_mineBoth_118 : decode cX4_mineBoth 118 = .ok (.istore 10, 2) := by decide +kernel
theorem dX4_mineBoth_120 : decode cX4_mineBoth 120 = .ok (.iload 10, 2) := by decide +kernel
theorem dX4_mineBoth_122 : decode cX4_mineBoth 122 = .ok (.iload 9, 2) := by decide +kernel
theorem dX4_mineBoth_124 : decode cX4_mineBoth 124 = .ok (.if_icmp .ge 31, 3) := by decide +kernel
theorem dX4_mineBoth_127 : decode cX4_mineBoth 127 = .ok (.aload 6, 2) := by decide +kernel
theorem dX4_mineBoth_129 : decode cX4_mineBoth 129 = .ok (.iload 10, 2) := by decide +kernel
theorem dX4_mineBoth_131 : decode cX4_mineBoth 131 = .ok (.iaload, 1) := by decide +kernel
theorem dX4_mineBoth_132 : decode cX4_mineBoth 132 = .ok (.iload 7, 2) := by decide +kernel
theorem dX4_mineBoth_134 : decode cX4_mineBoth 134 = .ok (.iand, 1) := by decide +kernel
theorem dX4_mineBoth_135 : decode cX4_mineBoth 135 = .ok (.ifCond .eq 20, 3) := by decide +kernel
theorem dX4_mineBoth_138 : decode cX4_mineBoth 138 = .ok (.aload 6, 2) := by decide +kernel
theorem dX4_mineBoth_140 : decode cX4_mineBoth 140 = .ok (.iload 10, 2) := by decide +kernel
theorem dX4_mineBoth_142 : decode cX4_mineBoth 142 = .ok (.iaload, 1) := by decide +kernel
theorem dX4_mineBoth_143 : decode cX4_mineBoth 143 = .ok (.iload 8, 2) := by decide +kernel
theorem dX4_mineBoth_145 : decode cX4_mineBoth 145 = .ok (.iand, 1) := by decide +kernel
theorem dX4_mineBoth_146 : decode cX4_mineBoth 146 = .ok (.ifCond .eq 9, 3) := by decide +kernel
theorem dX4_mineBoth_149 : decode cX4_mineBoth 149 = .ok (.iinc 10 1, 3) := by decide +kernel
theorem dX4_mineBoth_152 : decode cX4_mineBoth 152 = .ok (.goto (-32), 3) := by decide +kernel
theorem dX4_mineBoth_155 : decode cX4_mineBoth 155 = .ok (.iload 10, 2) := by decide +kernel
theorem dX4_mineBoth_157 : decode cX4_mineBoth 157 = .ok (.iload 9, 2) := by decide +kernel
theorem dX4_mineBoth_159 : decode cX4_mineBoth 159 = .ok (.if_icmp .ne 6, 3) := by decide +kernel
theorem dX4_mineBoth_162 : decode cX4_mineBoth 162 = .ok (.goto (-58), 3) := by decide +kernel
theorem dX4_mineBoth_165 : decode cX4_mineBoth 165 = .ok (.iload 10, 2) := by decide +kernel
theorem dX4_mineBoth_167 : decode cX4_mineBoth 167 = .ok (.ifCond .ne 7, 3) := by decide +kernel
theorem dX4_mineBoth_170 : decode cX4_mineBoth 170 = .ok (.iconst 1, 1) := by decide +kernel
theorem dX4_mineBoth_171 : decode cX4_mineBoth 171 = .ok (.goto 4, 3) := by decide +kernel
theorem dX4_mineBoth_174 : decode cX4_mineBoth 174 = .ok (.iconst 0, 1) := by decide +kernel
theorem dX4_mineBoth_175 : decode cX4_mineBoth 175 = .ok (.istore 11, 2) := by decide +kernel
theorem dX4_mineBoth_177 : decode cX4_mineBoth 177 = .ok (.aload 6, 2) := by decide +kernel
theorem dX4_mineBoth_179 : decode cX4_mineBoth 179 = .ok (.iload 10, 2) := by decide +kernel
theorem dX4_mineBoth_181 : decode cX4_mineBoth 181 = .ok (.iaload, 1) := by decide +kernel
theorem dX4_mineBoth_182 : decode cX4_mineBoth 182 = .ok (.aload 6, 2) := by decide +kernel
theorem dX4_mineBoth_184 : decode cX4_mineBoth 184 = .ok (.iload 11, 2) := by decide +kernel
theorem dX4_mineBoth_186 : decode cX4_mineBoth 186 = .ok (.iaload, 1) := by decide +kernel
theorem dX4_mineBoth_187 : decode cX4_mineBoth 187 = .ok (.ior, 1) := by decide +kernel
theorem dX4_mineBoth_188 : decode cX4_mineBoth 188 = .ok (.istore 12, 2) := by decide +kernel
theorem dX4_mineBoth_190 : decode cX4_mineBoth 190 = .ok (.aload 6, 2) := by decide +kernel
theorem dX4_mineBoth_192 : decode cX4_mineBoth 192 = .ok (.iload 10, 2) := by decide +kernel
theorem dX4_mineBoth_194 : decode cX4_mineBoth 194 = .ok (.iload 11, 2) := by decide +kernel
theorem dX4_mineBoth_196 : decode cX4_mineBoth 196 = .ok (.invokestatic 145, 3) := by decide +kernel
theorem dX4_mineBoth_199 : decode cX4_mineBoth 199 = .ok (.iload 12, 2) := by decide +kernel
theorem dX4_mineBoth_201 : decode cX4_mineBoth 201 = .ok (.iastore, 1) := by decide +kernel
theorem dX4_mineBoth_202 : decode cX4_mineBoth 202 = .ok (.iload 10, 2) := by decide +kernel
theorem dX4_mineBoth_204 : decode cX4_mineBoth 204 = .ok (.iload 11, 2) := by decide +kernel
theorem dX4_mineBoth_206 : decode cX4_mineBoth 206 = .ok (.invokestatic 89, 3) := by decide +kernel
theorem dX4_mineBoth_209 : decode cX4_mineBoth 209 = .ok (.iconst 1, 1) := by decide +kernel
theorem dX4_mineBoth_210 : decode cX4_mineBoth 210 = .ok (.iadd, 1) := by decide +kernel
theorem dX4_mineBoth_211 : decode cX4_mineBoth 211 = .ok (.istore 13, 2) := by decide +kernel
theorem dX4_mineBoth_213 : decode cX4_mineBoth 213 = .ok (.iload 13, 2) := by decide +kernel
theorem dX4_mineBoth_215 : decode cX4_mineBoth 215 = .ok (.iload 9, 2) := by decide +kernel
theorem dX4_mineBoth_217 : decode cX4_mineBoth 217 = .ok (.if_icmp .ge 21, 3) := by decide +kernel
theorem dX4_mineBoth_220 : decode cX4_mineBoth 220 = .ok (.aload 6, 2) := by decide +kernel
theorem dX4_mineBoth_222 : decode cX4_mineBoth 222 = .ok (.iload 13, 2) := by decide +kernel
theorem dX4_mineBoth_224 : decode cX4_mineBoth 224 = .ok (.iconst 1, 1) := by decide +kernel
theorem dX4_mineBoth_225 : decode cX4_mineBoth 225 = .ok (.isub, 1) := by decide +kernel
theorem dX4_mineBoth_226 : decode cX4_mineBoth 226 = .ok (.aload 6, 2) := by decide +kernel
theorem dX4_mineBoth_228 : decode cX4_mineBoth 228 = .ok (.iload 13, 2) := by decide +kernel
theorem dX4_mineBoth_230 : decode cX4_mineBoth 230 = .ok (.iaload, 1) := by decide +kernel
theorem dX4_mineBoth_231 : decode cX4_mineBoth 231 = .ok (.iastore, 1) := by decide +kernel
theorem dX4_mineBoth_232 : decode cX4_mineBoth 232 = .ok (.iinc 13 1, 3) := by decide +kernel
theorem dX4_mineBoth_235 : decode cX4_mineBoth 235 = .ok (.goto (-22), 3) := by decide +kernel
theorem dX4_mineBoth_238 : decode cX4_mineBoth 238 = .ok (.iinc 9 (-1), 3) := by decide +kernel
theorem dX4_mineBoth_241 : decode cX4_mineBoth 241 = .ok (.iconst 0, 1) := by decide +kernel
theorem dX4_mineBoth_242 : decode cX4_mineBoth 242 = .ok (.istore 10, 2) := by decide +kernel
theorem dX4_mineBoth_244 : decode cX4_mineBoth 244 = .ok (.goto (-140), 3) := by decide +kernel
theorem dX4_mineBoth_247 : decode cX4_mineBoth 247 = .ok (.iload 9, 2) := by decide +kernel
theorem dX4_mineBoth_249 : decode cX4_mineBoth 249 = .ok (.iconst 2, 1) := by decide +kernel
theorem dX4_mineBoth_250 : decode cX4_mineBoth 250 = .ok (.if_icmp .ge 5, 3) := by decide +kernel
theorem dX4_mineBoth_253 : decode cX4_mineBoth 253 = .ok (.iconst 0, 1) := by decide +kernel
theorem dX4_mineBoth_254 : decode cX4_mineBoth 254 = .ok (.ireturn, 1) := by decide +kernel
theorem dX4_mineBoth_255 : decode cX4_mineBoth 255 = .ok (.aload_n 0, 1) := by decide +kernel
theorem dX4_mineBoth_256 : decode cX4_mineBoth 256 = .ok (.iconst 4, 1) := by decide +kernel
theorem dX4_mineBoth_257 : decode cX4_mineBoth 257 = .ok (.iload 4, 2) := by decide +kernel
theorem dX4_mineBoth_259 : decode cX4_mineBoth 259 = .ok (.iload_n 2, 1) := by decide +kernel
theorem dX4_mineBoth_260 : decode cX4_mineBoth 260 = .ok (.invokevirtual 101, 3) := by decide +kernel
theorem dX4_mineBoth_263 : decode cX4_mineBoth 263 = .ok (.istore 11, 2) := by decide +kernel
theorem dX4_mineBoth_265 : decode cX4_mineBoth 265 = .ok (.iconst 0, 1) := by decide +kernel
theorem dX4_mineBoth_266 : decode cX4_mineBoth 266 = .ok (.istore 12, 2) := by decide +kernel
theorem dX4_mineBoth_268 : decode cX4_mineBoth 268 = .ok (.iload 12, 2) := by decide +kernel
theorem dX4_mineBoth_270 : decode cX4_mineBoth 270 = .ok (.iload 9, 2) := by decide +kernel
theorem dX4_mineBoth_272 : decode cX4_mineBoth 272 = .ok (.if_icmp .ge 25, 3) := by decide +kernel
theorem dX4_mineBoth_275 : decode cX4_mineBoth 275 = .ok (.aload_n 0, 1) := by decide +kernel
theorem dX4_mineBoth_276 : decode cX4_mineBoth 276 = .ok (.aload_n 1, 1) := by decide +kernel
theorem dX4_mineBoth_277 : decode cX4_mineBoth 277 = .ok (.aload 6, 2) := by decide +kernel
theorem dX4_mineBoth_279 : decode cX4_mineBoth 279 = .ok (.iload 12, 2) := by decide +kernel
theorem dX4_mineBoth_281 : decode cX4_mineBoth 281 = .ok (.iaload, 1) := by decide +kernel
theorem dX4_mineBoth_282 : decode cX4_mineBoth 282 = .ok (.iconst 1, 1) := by decide +kernel
theorem dX4_mineBoth_283 : decode cX4_mineBoth 283 = .ok (.invokestatic 105, 3) := by decide +kernel
theorem dX4_mineBoth_286 : decode cX4_mineBoth 286 = .ok (.iload 11, 2) := by decide +kernel
theorem dX4_mineBoth_288 : decode cX4_mineBoth 288 = .ok (.invokevirtual 109, 3) := by decide +kernel
theorem dX4_mineBoth_291 : decode cX4_mineBoth 291 = .ok (.iinc 12 1, 3) := by decide +kernel
theorem dX4_mineBoth_294 : decode cX4_mineBoth 294 = .ok (.goto (-26), 3) := by decide +kernel
theorem dX4_mineBoth_297 : decode cX4_mineBoth 297 = .ok (.iconst 1, 1) := by decide +kernel
theorem dX4_mineBoth_298 : decode cX4_mineBoth 298 = .ok (.ireturn, 1) := by decide +kernel
theorem dX4_mineAgain_0 : decode cX4_mineAgain 0 = .ok (.aload_n 1, 1) := by decide +kernel
theorem dX4_mineAgain_1 : decode cX4_mineAgain 1 = .ok (.iconst 0, 1) := by decide +kernel
theorem dX4_mineAgain_2 : decode cX4_mineAgain 2 = .ok (.invokestatic 141, 3) := by decide +kernel
theorem dX4_mineAgain_5 : decode cX4_mineAgain 5 = .ok (.istore 5, 2) := by decide +kernel
theorem dX4_mineAgain_7 : decode cX4_mineAgain 7 = .ok (.aload_n 1, 1) := by decide +kernel
theorem dX4_mineAgain_8 : decode cX4_mineAgain 8 = .ok (.iconst 1, 1) := by decide +kernel
theorem dX4_mineAgain_9 : decode cX4_mineAgain 9 = .ok (.invokestatic 141, 3) := by decide +kernel
theorem dX4_mineAgain_12 : decode cX4_mineAgain 12 = .ok (.istore 6, 2) := by decide +kernel
theorem dX4_mineAgain_14 : decode cX4_mineAgain 14 = .ok (.iload 5, 2) := by decide +kernel
theorem dX4_mineAgain_16 : decode cX4_mineAgain 16 = .ok (.iload 6, 2) := by decide +kernel
theorem dX4_mineAgain_18 : decode cX4_mineAgain 18 = .ok (.ior, 1) := by decide +kernel
theorem dX4_mineAgain_19 : decode cX4_mineAgain 19 = .ok (.istore 7, 2) := by decide +kernel
theorem dX4_mineAgain_21 : decode cX4_mineAgain 21 = .ok (.iload_n 2, 1) := by decide +kernel
theorem dX4_mineAgain_22 : decode cX4_mineAgain 22 = .ok (.iload 7, 2) := by decide +kernel
theorem dX4_mineAgain_24 : decode cX4_mineAgain 24 = .ok (.iconst (-1), 1) := by decide +kernel
theorem dX4_mineAgain_25 : decode cX4_mineAgain 25 = .ok (.ixor, 1) := by decide +kernel
theorem dX4_mineAgain_26 : decode cX4_mineAgain 26 = .ok (.iand, 1) := by decide +kernel
theorem dX4_mineAgain_27 : decode cX4_mineAgain 27 = .ok (.aload_n 3, 1) := by decide +kernel
theorem dX4_mineAgain_28 : decode cX4_mineAgain 28 = .ok (.invokestatic 130, 3) := by decide +kernel
theorem dX4_mineAgain_31 : decode cX4_mineAgain 31 = .ok (.astore 8, 2) := by decide +kernel
theorem dX4_mineAgain_33 : decode cX4_mineAgain 33 = .ok (.iconst 1, 1) := by decide +kernel
theorem dX4_mineAgain_34 : decode cX4_mineAgain 34 = .ok (.istore 9, 2) := by decide +kernel
theorem dX4_mineAgain_36 : decode cX4_mineAgain 36 = .ok (.iload 9, 2) := by decide +kernel
theorem dX4_mineAgain_38 : decode cX4_mineAgain 38 = .ok (.ifCond .eq 74, 3) := by decide +kernel
theorem dX4_mineAgain_41 : decode cX4_mineAgain 41 = .ok (.iconst 0, 1) := by decide +kernel
theorem dX4_mineAgain_42 : decode cX4_mineAgain 42 = .ok (.istore 9, 2) := by decide +kernel
theorem dX4_mineAgain_44 : decode cX4_mineAgain 44 = .ok (.iconst 0, 1) := by decide +kernel
theorem dX4_mineAgain_45 : decode cX4_mineAgain 45 = .ok (.istore 10, 2) := by decide +kernel
theorem dX4_mineAgain_47 : decode cX4_mineAgain 47 = .ok (.iload 10, 2) := by decide +kernel
theorem dX4_mineAgain_49 : decode cX4_mineAgain 49 = .ok (.aload 8, 2) := by decide +kernel
theorem dX4_mineAgain_51 : decode cX4_mineAgain 51 = .ok (.arraylength, 1) := by decide +kernel
theorem dX4_mineAgain_52 : decode cX4_mineAgain 52 = .ok (.if_icmp .ge 57, 3) := by decide +kernel
theorem dX4_mineAgain_55 : decode cX4_mineAgain 55 = .ok (.aload 8, 2) := by decide +kernel
theorem dX4_mineAgain_57 : decode cX4_mineAgain 57 = .ok (.iload 10, 2) := by decide +kernel
theorem dX4_mineAgain_59 : decode cX4_mineAgain 59 = .ok (.iaload, 1) := by decide +kernel
theorem dX4_mineAgain_60 : decode cX4_mineAgain 60 = .ok (.ifCond .eq 43, 3) := by decide +kernel
theorem dX4_mineAgain_63 : decode cX4_mineAgain 63 = .ok (.aload 8, 2) := by decide +kernel
theorem dX4_mineAgain_65 : decode cX4_mineAgain 65 = .ok (.iload 10, 2) := by decide +kernel
theorem dX4_mineAgain_67 : decode cX4_mineAgain 67 = .ok (.iaload, 1) := by decide +kernel
theorem dX4_mineAgain_68 : decode cX4_mineAgain 68 = .ok (.iload 7, 2) := by decide +kernel
theorem dX4_mineAgain_70 : decode cX4_mineAgain 70 = .ok (.iload 5, 2) := by decide +kernel
theorem dX4_mineAgain_72 : decode cX4_mineAgain 72 = .ok (.iload 6, 2) := by decide +kernel
theorem dX4_mineAgain_74 : decode cX4_mineAgain 74 = .ok (.aload_n 3, 1) := by decide +kernel
theorem dX4_mineAgain_75 : decode cX4_mineAgain 75 = .ok (.invokestatic 148, 3) := by decide +kernel
theorem dX4_mineAgain_78 : decode cX4_mineAgain 78 = .ok (.ifCond .ne 6, 3) := by decide +kernel
theorem dX4_mineAgain_81 : decode cX4_mineAgain 81 = .ok (.goto 22, 3) := by decide +kernel
theorem dX4_mineAgain_84 : decode cX4_mineAgain 84 = .ok (.iload 7, 2) := by decide +kernel
theorem dX4_mineAgain_86 : decode cX4_mineAgain 86 = .ok (.aload 8, 2) := by decide +kernel
theorem dX4_mineAgain_88 : decode cX4_mineAgain 88 = .ok (.iload 10, 2) := by decide +kernel
theorem dX4_mineAgain_90 : decode cX4_mineAgain 90 = .ok (.iaload, 1) := by decide +kernel
theorem dX4_mineAgain_91 : decode cX4_mineAgain 91 = .ok (.ior, 1) := by decide +kernel
theorem dX4_mineAgain_92 : decode cX4_mineAgain 92 = .ok (.istore 7, 2) := by decide +kernel
theorem dX4_mineAgain_94 : decode cX4_mineAgain 94 = .ok (.aload 8, 2) := by decide +kernel
theorem dX4_mineAgain_96 : decode cX4_mineAgain 96 = .ok (.iload 10, 2) := by decide +kernel
theorem dX4_mineAgain_98 : decode cX4_mineAgain 98 = .ok (.iconst 0, 1) := by decide +kernel
theorem dX4_mineAgain_99 : decode cX4_mineAgain 99 = .ok (.iastore, 1) := by decide +kernel
theorem dX4_mineAgain_100 : decode cX4_mineAgain 100 = .ok (.iconst 1, 1) := by decide +kernel
theorem dX4_mineAgain_101 : decode cX4_mineAgain 101 = .ok (.istore 9, 2) := by decide +kernel
theorem dX4_mineAgain_103 : decode cX4_mineAgain 103 = .ok (.iinc 10 1, 3) := by decide +kernel
theorem dX4_mineAgain_106 : decode cX4_mineAgain 106 = .ok (.goto (-59), 3) := by decide +kernel
theorem dX4_mineAgain_109 : decode cX4_mineAgain 109 = .ok (.goto (-73), 3) := by decide +kernel
theorem dX4_mineAgain_112 : decode cX4_mineAgain 112 = .ok (.iload 7, 2) := by decide +kernel
theorem dX4_mineAgain_114 : decode cX4_mineAgain 114 = .ok (.iload_n 2, 1) := by decide +kernel
theorem dX4_mineAgain_115 : decode cX4_mineAgain 115 = .ok (.if_icmp .ne 5, 3) := by decide +kernel
theorem dX4_mineAgain_118 : decode cX4_mineAgain 118 = .ok (.iconst 0, 1) := by decide +kernel
theorem dX4_mineAgain_119 : decode cX4_mineAgain 119 = .ok (.ireturn, 1) := by decide +kernel
theorem dX4_mineAgain_120 : decode cX4_mineAgain 120 = .ok (.aload_n 0, 1) := by decide +kernel
theorem dX4_mineAgain_121 : decode cX4_mineAgain 121 = .ok (.iconst 5, 1) := by decide +kernel
theorem dX4_mineAgain_122 : decode cX4_mineAgain 122 = .ok (.iload 4, 2) := by decide +kernel
theorem dX4_mineAgain_124 : decode cX4_mineAgain 124 = .ok (.iload_n 2, 1) := by decide +kernel
theorem dX4_mineAgain_125 : decode cX4_mineAgain 125 = .ok (.invokevirtual 101, 3) := by decide +kernel
theorem dX4_mineAgain_128 : decode cX4_mineAgain 128 = .ok (.istore 10, 2) := by decide +kernel
theorem dX4_mineAgain_130 : decode cX4_mineAgain 130 = .ok (.aload_n 0, 1) := by decide +kernel
theorem dX4_mineAgain_131 : decode cX4_mineAgain 131 = .ok (.aload_n 1, 1) := by decide +kernel
theorem dX4_mineAgain_132 : decode cX4_mineAgain 132 = .ok (.iload 7, 2) := by decide +kernel
theorem dX4_mineAgain_134 : decode cX4_mineAgain 134 = .ok (.invokestatic 152, 3) := by decide +kernel
theorem dX4_mineAgain_137 : decode cX4_mineAgain 137 = .ok (.iload 10, 2) := by decide +kernel
theorem dX4_mineAgain_139 : decode cX4_mineAgain 139 = .ok (.invokevirtual 109, 3) := by decide +kernel
theorem dX4_mineAgain_142 : decode cX4_mineAgain 142 = .ok (.aload 8, 2) := by decide +kernel
theorem dX4_mineAgain_144 : decode cX4_mineAgain 144 = .ok (.astore 11, 2) := by decide +kernel
theorem dX4_mineAgain_146 : decode cX4_mineAgain 146 = .ok (.aload 11, 2) := by decide +kernel
theorem dX4_mineAgain_148 : decode cX4_mineAgain 148 = .ok (.arraylength, 1) := by decide +kernel
theorem dX4_mineAgain_149 : decode cX4_mineAgain 149 = .ok (.istore 12, 2) := by decide +kernel
theorem dX4_mineAgain_151 : decode cX4_mineAgain 151 = .ok (.iconst 0, 1) := by decide +kernel
theorem dX4_mineAgain_152 : decode cX4_mineAgain 152 = .ok (.istore 13, 2) := by decide +kernel
theorem dX4_mineAgain_154 : decode cX4_mineAgain 154 = .ok (.iload 13, 2) := by decide +kernel
theorem dX4_mineAgain_156 : decode cX4_mineAgain 156 = .ok (.iload 12, 2) := by decide +kernel
theorem dX4_mineAgain_158 : decode cX4_mineAgain 158 = .ok (.if_icmp .ge 33, 3) := by decide +kernel
theorem dX4_mineAgain_161 : decode cX4_mineAgain 161 = .ok (.aload 11, 2) := by decide +kernel
theorem dX4_mineAgain_163 : decode cX4_mineAgain 163 = .ok (.iload 13, 2) := by decide +kernel
theorem dX4_mineAgain_165 : decode cX4_mineAgain 165 = .ok (.iaload, 1) := by decide +kernel
theorem dX4_mineAgain_166 : decode cX4_mineAgain 166 = .ok (.istore 14, 2) := by decide +kernel
theorem dX4_mineAgain_168 : decode cX4_mineAgain 168 = .ok (.iload 14, 2) := by decide +kernel
theorem dX4_mineAgain_170 : decode cX4_mineAgain 170 = .ok (.ifCond .eq 15, 3) := by decide +kernel
theorem dX4_mineAgain_173 : decode cX4_mineAgain 173 = .ok (.aload_n 0, 1) := by decide +kernel
theorem dX4_mineAgain_174 : decode cX4_mineAgain 174 = .ok (.aload_n 1, 1) := by decide +kernel
theorem dX4_mineAgain_175 : decode cX4_mineAgain 175 = .ok (.iload 14, 2) := by decide +kernel
theorem dX4_mineAgain_177 : decode cX4_mineAgain 177 = .ok (.invokestatic 152, 3) := by decide +kernel
theorem dX4_mineAgain_180 : decode cX4_mineAgain 180 = .ok (.iload 10, 2) := by decide +kernel
theorem dX4_mineAgain_182 : decode cX4_mineAgain 182 = .ok (.invokevirtual 109, 3) := by decide +kernel
theorem dX4_mineAgain_185 : decode cX4_mineAgain 185 = .ok (.iinc 13 1, 3) := by decide +kernel
theorem dX4_mineAgain_188 : decode cX4_mineAgain 188 = .ok (.goto (-34), 3) := by decide +kernel
theorem dX4_mineAgain_191 : decode cX4_mineAgain 191 = .ok (.iconst 1, 1) := by decide +kernel
theorem dX4_mineAgain_192 : decode cX4_mineAgain 192 = .ok (.ireturn, 1) := by decide +kernel
theorem dX4_belongs_0 : decode cX4_belongs 0 = .ok (.iconst 0, 1) := by decide +kernel
theorem dX4_belongs_1 : decode cX4_belongs 1 = .ok (.istore 5, 2) := by decide +kernel
theorem dX4_belongs_3 : decode cX4_belongs 3 = .ok (.iconst 0, 1) := by decide +kernel
theorem dX4_belongs_4 : decode cX4_belongs 4 = .ok (.istore 6, 2) := by decide +kernel
theorem dX4_belongs_6 : decode cX4_belongs 6 = .ok (.iload 6, 2) := by decide +kernel
theorem dX4_belongs_8 : decode cX4_belongs 8 = .ok (.bipush 8, 2) := by decide +kernel
theorem dX4_belongs_10 : decode cX4_belongs 10 = .ok (.if_icmp .ge 97, 3) := by decide +kernel
theorem dX4_belongs_13 : decode cX4_belongs 13 = .ok (.iconst 0, 1) := by decide +kernel
theorem dX4_belongs_14 : decode cX4_belongs 14 = .ok (.istore 7, 2) := by decide +kernel
theorem dX4_belongs_16 : decode cX4_belongs 16 = .ok (.iload 7, 2) := by decide +kernel
theorem dX4_belongs_18 : decode cX4_belongs 18 = .ok (.bipush 8, 2) := by decide +kernel
theorem dX4_belongs_20 : decode cX4_belongs 20 = .ok (.if_icmp .ge 81, 3) := by decide +kernel
theorem dX4_belongs_23 : decode cX4_belongs 23 = .ok (.aload 4, 2) := by decide +kernel
theorem dX4_belongs_25 : decode cX4_belongs 25 = .ok (.iload 6, 2) := by decide +kernel
theorem dX4_belongs_27 : decode cX4_belongs 27 = .ok (.iaload, 1) := by decide +kernel
theorem dX4_belongs_28 : decode cX4_belongs 28 = .ok (.iload 7, 2) := by decide +kernel
theorem dX4_belongs_30 : decode cX4_belongs 30 = .ok (.invokestatic 66, 3) := by decide +kernel
theorem dX4_belongs_33 : decode cX4_belongs 33 = .ok (.ifCond .ne 6, 3) := by decide +kernel
theorem dX4_belongs_36 : decode cX4_belongs 36 = .ok (.goto 59, 3) := by decide +kernel
theorem dX4_belongs_39 : decode cX4_belongs 39 = .ok (.iload 5, 2) := by decide +kernel
theorem dX4_belongs_41 : decode cX4_belongs 41 = .ok (.ifCond .ne 47, 3) := by decide +kernel
theorem dX4_belongs_44 : decode cX4_belongs 44 = .ok (.iload_n 1, 1) := by decide +kernel
theorem dX4_belongs_45 : decode cX4_belongs 45 = .ok (.iload_n 3, 1) := by decide +kernel
theorem dX4_belongs_46 : decode cX4_belongs 46 = .ok (.iconst (-1), 1) := by decide +kernel
theorem dX4_belongs_47 : decode cX4_belongs 47 = .ok (.ixor, 1) := by decide +kernel
theorem dX4_belongs_48 : decode cX4_belongs 48 = .ok (.iand, 1) := by decide +kernel
theorem dX4_belongs_49 : decode cX4_belongs 49 = .ok (.iload 6, 2) := by decide +kernel
theorem dX4_belongs_51 : decode cX4_belongs 51 = .ok (.invokestatic 66, 3) := by decide +kernel
theorem dX4_belongs_54 : decode cX4_belongs 54 = .ok (.ifCond .eq 12, 3) := by decide +kernel
theorem dX4_belongs_57 : decode cX4_belongs 57 = .ok (.iload_n 0, 1) := by decide +kernel
theorem dX4_belongs_58 : decode cX4_belongs 58 = .ok (.iload 7, 2) := by decide +kernel
theorem dX4_belongs_60 : decode cX4_belongs 60 = .ok (.invokestatic 66, 3) := by decide +kernel
theorem dX4_belongs_63 : decode cX4_belongs 63 = .ok (.ifCond .ne 25, 3) := by decide +kernel
theorem dX4_belongs_66 : decode cX4_belongs 66 = .ok (.iload_n 0, 1) := by decide +kernel
theorem dX4_belongs_67 : decode cX4_belongs 67 = .ok (.iload 6, 2) := by decide +kernel
theorem dX4_belongs_69 : decode cX4_belongs 69 = .ok (.invokestatic 66, 3) := by decide +kernel
theorem dX4_belongs_72 : decode cX4_belongs 72 = .ok (.ifCond .eq 20, 3) := by decide +kernel
theorem dX4_belongs_75 : decode cX4_belongs 75 = .ok (.iload_n 1, 1) := by decide +kernel
theorem dX4_belongs_76 : decode cX4_belongs 76 = .ok (.iload_n 2, 1) := by decide +kernel
theorem dX4_belongs_77 : decode cX4_belongs 77 = .ok (.iconst (-1), 1) := by decide +kernel
theorem dX4_belongs_78 : decode cX4_belongs 78 = .ok (.ixor, 1) := by decide +kernel
theorem dX4_belongs_79 : decode cX4_belongs 79 = .ok (.iand, 1) := by decide +kernel
theorem dX4_belongs_80 : decode cX4_belongs 80 = .ok (.iload 7, 2) := by decide +kernel
theorem dX4_belongs_82 : decode cX4_belongs 82 = .ok (.invokestatic 66, 3) := by decide +kernel
theorem dX4_belongs_85 : decode cX4_belongs 85 = .ok (.ifCond .eq 7, 3) := by decide +kernel
theorem dX4_belongs_88 : decode cX4_belongs 88 = .ok (.iconst 1, 1) := by decide +kernel
theorem dX4_belongs_89 : decode cX4_belongs 89 = .ok (.goto 4, 3) := by decide +kernel
theorem dX4_belongs_92 : decode cX4_belongs 92 = .ok (.iconst 0, 1) := by decide +kernel
theorem dX4_belongs_93 : decode cX4_belongs 93 = .ok (.istore 5, 2) := by decide +kernel
theorem dX4_belongs_95 : decode cX4_belongs 95 = .ok (.iinc 7 1, 3) := by decide +kernel
theorem dX4_belongs_98 : decode cX4_belongs 98 = .ok (.goto (-82), 3) := by decide +kernel
theorem dX4_belongs_101 : decode cX4_belongs 101 = .ok (.iinc 6 1, 3) := by decide +kernel
theorem dX4_belongs_104 : decode cX4_belongs 104 = .ok (.goto (-98), 3) := by decide +kernel
theorem dX4_belongs_107 : decode cX4_belongs 107 = .ok (.iload 5, 2) := by decide +kernel
theorem dX4_belongs_109 : decode cX4_belongs 109 = .ok (.ireturn, 1) := by decide +kernel
theorem dX4_mine_0 : decode cX4_mine 0 = .ok (.aload_n 0, 1) := by decide +kernel
theorem dX4_mine_1 : decode cX4_mine 1 = .ok (.iconst 0, 1) := by decide +kernel
theorem dX4_mine_2 : decode cX4_mine 2 = .ok (.putfield 34, 3) := by decide +kernel
theorem dX4_mine_5 : decode cX4_mine 5 = .ok (.aload_n 0, 1) := by decide +kernel
theorem dX4_mine_6 : decode cX4_mine 6 = .ok (.getfield 55, 3) := by decide +kernel
theorem dX4_mine_9 : decode cX4_mine 9 = .ok (.ifCond .eq 8, 3) := by decide +kernel
theorem dX4_mine_12 : decode cX4_mine 12 = .ok (.aload_n 0, 1) := by decide +kernel
theorem dX4_mine_13 : decode cX4_mine 13 = .ok (.getfield 94, 3) := by decide +kernel
theorem dX4_mine_16 : decode cX4_mine 16 = .ok (.ireturn, 1) := by decide +kernel
theorem dX4_mine_17 : decode cX4_mine 17 = .ok (.aload_n 0, 1) := by decide +kernel
theorem dX4_mine_18 : decode cX4_mine 18 = .ok (.getfield 38, 3) := by decide +kernel
theorem dX4_mine_21 : decode cX4_mine 21 = .ok (.anewarray 84, 3) := by decide +kernel
theorem dX4_mine_24 : decode cX4_mine 24 = .ok (.astore_n 1, 1) := by decide +kernel
theorem dX4_mine_25 : decode cX4_mine 25 = .ok (.iconst 0, 1) := by decide +kernel
theorem dX4_mine_26 : decode cX4_mine 26 = .ok (.istore_n 2, 1) := by decide +kernel
theorem dX4_mine_27 : decode cX4_mine 27 = .ok (.iconst 0, 1) := by decide +kernel
theorem dX4_mine_28 : decode cX4_mine 28 = .ok (.istore_n 3, 1) := by decide +kernel
theorem dX4_mine_29 : decode cX4_mine 29 = .ok (.iload_n 3, 1) := by decide +kernel
theorem dX4_mine_30 : decode cX4_mine 30 = .ok (.aload_n 0, 1) := by decide +kernel
theorem dX4_mine_31 : decode cX4_mine 31 = .ok (.getfield 38, 3) := by decide +kernel
theorem dX4_mine_34 : decode cX4_mine 34 = .ok (.if_icmp .ge 73, 3) := by decide +kernel
theorem dX4_mine_37 : decode cX4_mine 37 = .ok (.aload_n 0, 1) := by decide +kernel
theorem dX4_mine_38 : decode cX4_mine 38 = .ok (.getfield 13, 3) := by decide +kernel
theorem dX4_mine_41 : decode cX4_mine 41 = .ok (.iload_n 3, 1) := by decide +kernel
theorem dX4_mine_42 : decode cX4_mine 42 = .ok (.iaload, 1) := by decide +kernel
theorem dX4_mine_43 : decode cX4_mine 43 = .ok (.ifCond .ne 6, 3) := by decide +kernel
theorem dX4_mine_46 : decode cX4_mine 46 = .ok (.goto 55, 3) := by decide +kernel
theorem dX4_mine_49 : decode cX4_mine 49 = .ok (.aload_n 1, 1) := by decide +kernel
theorem dX4_mine_50 : decode cX4_mine 50 = .ok (.iload_n 2, 1) := by decide +kernel
theorem dX4_mine_51 : decode cX4_mine 51 = .ok (.aload_n 0, 1) := by decide +kernel
theorem dX4_mine_52 : decode cX4_mine 52 = .ok (.getfield 16, 3) := by decide +kernel
theorem dX4_mine_55 : decode cX4_mine 55 = .ok (.iload_n 3, 1) := by decide +kernel
theorem dX4_mine_56 : decode cX4_mine 56 = .ok (.iaload, 1) := by decide +kernel
theorem dX4_mine_57 : decode cX4_mine 57 = .ok (.newarray .int, 2) := by decide +kernel
theorem dX4_mine_59 : decode cX4_mine 59 = .ok (.aastore, 1) := by decide +kernel
theorem dX4_mine_60 : decode cX4_mine 60 = .ok (.iconst 0, 1) := by decide +kernel
theorem dX4_mine_61 : decode cX4_mine 61 = .ok (.istore 4, 2) := by decide +kernel
theorem dX4_mine_63 : decode cX4_mine 63 = .ok (.iload 4, 2) := by decide +kernel
theorem dX4_mine_65 : decode cX4_mine 65 = .ok (.aload_n 0, 1) := by decide +kernel
theorem dX4_mine_66 : decode cX4_mine 66 = .ok (.getfield 16, 3) := by decide +kernel
theorem dX4_mine_69 : decode cX4_mine 69 = .ok (.iload_n 3, 1) := by decide +kernel
theorem dX4_mine_70 : decode cX4_mine 70 = .ok (.iaload, 1) := by decide +kernel
theorem dX4_mine_71 : decode cX4_mine 71 = .ok (.if_icmp .ge 27, 3) := by decide +kernel
theorem dX4_mine_74 : decode cX4_mine 74 = .ok (.aload_n 1, 1) := by decide +kernel
theorem dX4_mine_75 : decode cX4_mine 75 = .ok (.iload_n 2, 1) := by decide +kernel
theorem dX4_mine_76 : decode cX4_mine 76 = .ok (.aaload, 1) := by decide +kernel
theorem dX4_mine_77 : decode cX4_mine 77 = .ok (.iload 4, 2) := by decide +kernel
theorem dX4_mine_79 : decode cX4_mine 79 = .ok (.aload_n 0, 1) := by decide +kernel
theorem dX4_mine_80 : decode cX4_mine 80 = .ok (.getfield 19, 3) := by decide +kernel
theorem dX4_mine_83 : decode cX4_mine 83 = .ok (.bipush 12, 2) := by decide +kernel
theorem dX4_mine_85 : decode cX4_mine 85 = .ok (.iload_n 3, 1) := by decide +kernel
theorem dX4_mine_86 : decode cX4_mine 86 = .ok (.imul, 1) := by decide +kernel
end
section
theorem dX4_mine_87 : decode cX4_mine 87 = .ok (.iload 4, 2) := by decide +kernel
theorem dX4_mine_89 : decode cX4_mine 89 = .ok (.iadd, 1) := by decide +kernel
theorem dX4_mine_90 : decode cX4_mine 90 = .ok (.iaload, 1) := by decide +kernel
theorem dX4_mine_91 : decode cX4_mine 91 = .ok (.iastore, 1) := by decide +kernel
theorem dX4_mine_92 : decode cX4_mine 92 = .ok (.iinc 4 1, 3) := by decide +kernel
theorem dX4_mine_95 : decode cX4_mine 95 = .ok (.goto (-32), 3) := by decide +kernel
theorem dX4_mine_98 : decode cX4_mine 98 = .ok (.iinc 2 1, 3) := by decide +kernel
theorem dX4_mine_101 : decode cX4_mine 101 = .ok (.iinc 3 1, 3) := by decide +kernel
theorem dX4_mine_104 : decode cX4_mine 104 = .ok (.goto (-75), 3) := by decide +kernel
theorem dX4_mine_107 : decode cX4_mine 107 = .ok (.aload_n 0, 1) := by decide +kernel
theorem dX4_mine_108 : decode cX4_mine 108 = .ok (.iconst 0, 1) := by decide +kernel
theorem dX4_mine_109 : decode cX4_mine 109 = .ok (.putfield 94, 3) := by decide +kernel
theorem dX4_mine_112 : decode cX4_mine 112 = .ok (.aload_n 0, 1) := by decide +kernel
theorem dX4_mine_113 : decode cX4_mine 113 = .ok (.aload_n 1, 1) := by decide +kernel
theorem dX4_mine_114 : decode cX4_mine 114 = .ok (.iload_n 2, 1) := by decide +kernel
theorem dX4_mine_115 : decode cX4_mine 115 = .ok (.invokestatic 85, 3) := by decide +kernel
theorem dX4_mine_118 : decode cX4_mine 118 = .ok (.iconst (-1), 1) := by decide +kernel
theorem dX4_mine_119 : decode cX4_mine 119 = .ok (.invokevirtual 109, 3) := by decide +kernel
theorem dX4_mine_122 : decode cX4_mine 122 = .ok (.aload_n 0, 1) := by decide +kernel
theorem dX4_mine_123 : decode cX4_mine 123 = .ok (.iconst 1, 1) := by decide +kernel
theorem dX4_mine_124 : decode cX4_mine 124 = .ok (.putfield 55, 3) := by decide +kernel
theorem dX4_mine_127 : decode cX4_mine 127 = .ok (.aload_n 0, 1) := by decide +kernel
theorem dX4_mine_128 : decode cX4_mine 128 = .ok (.getfield 94, 3) := by decide +kernel
theorem dX4_mine_131 : decode cX4_mine 131 = .ok (.ireturn, 1) := by decide +kernel
theorem dX4_asks_0 : decode cX4_asks 0 = .ok (.aload_n 0, 1) := by decide +kernel
theorem dX4_asks_1 : decode cX4_asks 1 = .ok (.aload_n 0, 1) := by decide +kernel
theorem dX4_asks_2 : decode cX4_asks 2 = .ok (.getfield 55, 3) := by decide +kernel
theorem dX4_asks_5 : decode cX4_asks 5 = .ok (.ifCond .ne 7, 3) := by decide +kernel
theorem dX4_asks_8 : decode cX4_asks 8 = .ok (.iconst 1, 1) := by decide +kernel
theorem dX4_asks_9 : decode cX4_asks 9 = .ok (.goto 17, 3) := by decide +kernel
theorem dX4_asks_12 : decode cX4_asks 12 = .ok (.iload_n 1, 1) := by decide +kernel
theorem dX4_asks_13 : decode cX4_asks 13 = .ok (.ifCond .lt 8, 3) := by decide +kernel
theorem dX4_asks_16 : decode cX4_asks 16 = .ok (.iload_n 1, 1) := by decide +kernel
theorem dX4_asks_17 : decode cX4_asks 17 = .ok (.iload_n 2, 1) := by decide +kernel
theorem dX4_asks_18 : decode cX4_asks 18 = .ok (.if_icmp .lt 7, 3) := by decide +kernel
theorem dX4_asks_21 : decode cX4_asks 21 = .ok (.iconst 2, 1) := by decide +kernel
theorem dX4_asks_22 : decode cX4_asks 22 = .ok (.goto 4, 3) := by decide +kernel
theorem dX4_asks_25 : decode cX4_asks 25 = .ok (.iconst 0, 1) := by decide +kernel
theorem dX4_asks_26 : decode cX4_asks 26 = .ok (.putfield 34, 3) := by decide +kernel
theorem dX4_asks_29 : decode cX4_asks 29 = .ok (.aload_n 0, 1) := by decide +kernel
theorem dX4_asks_30 : decode cX4_asks 30 = .ok (.getfield 34, 3) := by decide +kernel
theorem dX4_asks_33 : decode cX4_asks 33 = .ok (.ifCond .ne 7, 3) := by decide +kernel
theorem dX4_asks_36 : decode cX4_asks 36 = .ok (.iconst 1, 1) := by decide +kernel
theorem dX4_asks_37 : decode cX4_asks 37 = .ok (.goto 4, 3) := by decide +kernel
theorem dX4_asks_40 : decode cX4_asks 40 = .ok (.iconst 0, 1) := by decide +kernel
theorem dX4_asks_41 : decode cX4_asks 41 = .ok (.ireturn, 1) := by decide +kernel
theorem dX4_kind_0 : decode cX4_kind 0 = .ok (.aload_n 0, 1) := by decide +kernel
theorem dX4_kind_1 : decode cX4_kind 1 = .ok (.iload_n 1, 1) := by decide +kernel
theorem dX4_kind_2 : decode cX4_kind 2 = .ok (.aload_n 0, 1) := by decide +kernel
theorem dX4_kind_3 : decode cX4_kind 3 = .ok (.getfield 94, 3) := by decide +kernel
theorem dX4_kind_6 : decode cX4_kind 6 = .ok (.invokevirtual 155, 3) := by decide +kernel
theorem dX4_kind_9 : decode cX4_kind 9 = .ok (.ifCond .eq 12, 3) := by decide +kernel
theorem dX4_kind_12 : decode cX4_kind 12 = .ok (.aload_n 0, 1) := by decide +kernel
theorem dX4_kind_13 : decode cX4_kind 13 = .ok (.getfield 22, 3) := by decide +kernel
theorem dX4_kind_16 : decode cX4_kind 16 = .ok (.iload_n 1, 1) := by decide +kernel
theorem dX4_kind_17 : decode cX4_kind 17 = .ok (.iaload, 1) := by decide +kernel
theorem dX4_kind_18 : decode cX4_kind 18 = .ok (.goto 4, 3) := by decide +kernel
theorem dX4_kind_21 : decode cX4_kind 21 = .ok (.iconst 0, 1) := by decide +kernel
theorem dX4_kind_22 : decode cX4_kind 22 = .ok (.ireturn, 1) := by decide +kernel
theorem dX4_labelsOf_0 : decode cX4_labelsOf 0 = .ok (.aload_n 0, 1) := by decide +kernel
theorem dX4_labelsOf_1 : decode cX4_labelsOf 1 = .ok (.iload_n 1, 1) := by decide +kernel
theorem dX4_labelsOf_2 : decode cX4_labelsOf 2 = .ok (.aload_n 0, 1) := by decide +kernel
theorem dX4_labelsOf_3 : decode cX4_labelsOf 3 = .ok (.getfield 94, 3) := by decide +kernel
theorem dX4_labelsOf_6 : decode cX4_labelsOf 6 = .ok (.invokevirtual 155, 3) := by decide +kernel
theorem dX4_labelsOf_9 : decode cX4_labelsOf 9 = .ok (.ifCond .eq 12, 3) := by decide +kernel
theorem dX4_labelsOf_12 : decode cX4_labelsOf 12 = .ok (.aload_n 0, 1) := by decide +kernel
theorem dX4_labelsOf_13 : decode cX4_labelsOf 13 = .ok (.getfield 28, 3) := by decide +kernel
theorem dX4_labelsOf_16 : decode cX4_labelsOf 16 = .ok (.iload_n 1, 1) := by decide +kernel
theorem dX4_labelsOf_17 : decode cX4_labelsOf 17 = .ok (.iaload, 1) := by decide +kernel
theorem dX4_labelsOf_18 : decode cX4_labelsOf 18 = .ok (.goto 4, 3) := by decide +kernel
theorem dX4_labelsOf_21 : decode cX4_labelsOf 21 = .ok (.iconst 0, 1) := by decide +kernel
theorem dX4_labelsOf_22 : decode cX4_labelsOf 22 = .ok (.ireturn, 1) := by decide +kernel
theorem dX4_parent_0 : decode cX4_parent 0 = .ok (.aload_n 0, 1) := by decide +kernel
theorem dX4_parent_1 : decode cX4_parent 1 = .ok (.iload_n 1, 1) := by decide +kernel
theorem dX4_parent_2 : decode cX4_parent 2 = .ok (.aload_n 0, 1) := by decide +kernel
theorem dX4_parent_3 : decode cX4_parent 3 = .ok (.getfield 94, 3) := by decide +kernel
theorem dX4_parent_6 : decode cX4_parent 6 = .ok (.invokevirtual 155, 3) := by decide +kernel
theorem dX4_parent_9 : decode cX4_parent 9 = .ok (.ifCond .eq 12, 3) := by decide +kernel
theorem dX4_parent_12 : decode cX4_parent 12 = .ok (.aload_n 0, 1) := by decide +kernel
theorem dX4_parent_13 : decode cX4_parent 13 = .ok (.getfield 25, 3) := by decide +kernel
theorem dX4_parent_16 : decode cX4_parent 16 = .ok (.iload_n 1, 1) := by decide +kernel
theorem dX4_parent_17 : decode cX4_parent 17 = .ok (.iaload, 1) := by decide +kernel
theorem dX4_parent_18 : decode cX4_parent 18 = .ok (.goto 4, 3) := by decide +kernel
theorem dX4_parent_21 : decode cX4_parent 21 = .ok (.iconst 0, 1) := by decide +kernel
theorem dX4_parent_22 : decode cX4_parent 22 = .ok (.ireturn, 1) := by decide +kernel
theorem dX4_childCount_0 : decode cX4_childCount 0 = .ok (.iconst 0, 1) := by decide +kernel
theorem dX4_childCount_1 : decode cX4_childCount 1 = .ok (.istore_n 2, 1) := by decide +kernel
theorem dX4_childCount_2 : decode cX4_childCount 2 = .ok (.iload_n 1, 1) := by decide +kernel
theorem dX4_childCount_3 : decode cX4_childCount 3 = .ok (.iconst 1, 1) := by decide +kernel
theorem dX4_childCount_4 : decode cX4_childCount 4 = .ok (.iadd, 1) := by decide +kernel
theorem dX4_childCount_5 : decode cX4_childCount 5 = .ok (.istore_n 3, 1) := by decide +kernel
theorem dX4_childCount_6 : decode cX4_childCount 6 = .ok (.iload_n 3, 1) := by decide +kernel
theorem dX4_childCount_7 : decode cX4_childCount 7 = .ok (.aload_n 0, 1) := by decide +kernel
theorem dX4_childCount_8 : decode cX4_childCount 8 = .ok (.getfield 94, 3) := by decide +kernel
theorem dX4_childCount_11 : decode cX4_childCount 11 = .ok (.if_icmp .ge 27, 3) := by decide +kernel
theorem dX4_childCount_14 : decode cX4_childCount 14 = .ok (.iload_n 2, 1) := by decide +kernel
theorem dX4_childCount_15 : decode cX4_childCount 15 = .ok (.aload_n 0, 1) := by decide +kernel
theorem dX4_childCount_16 : decode cX4_childCount 16 = .ok (.getfield 25, 3) := by decide +kernel
theorem dX4_childCount_19 : decode cX4_childCount 19 = .ok (.iload_n 3, 1) := by decide +kernel
theorem dX4_childCount_20 : decode cX4_childCount 20 = .ok (.iaload, 1) := by decide +kernel
theorem dX4_childCount_21 : decode cX4_childCount 21 = .ok (.iload_n 1, 1) := by decide +kernel
theorem dX4_childCount_22 : decode cX4_childCount 22 = .ok (.if_icmp .ne 7, 3) := by decide +kernel
theorem dX4_childCount_25 : decode cX4_childCount 25 = .ok (.iconst 1, 1) := by decide +kernel
theorem dX4_childCount_26 : decode cX4_childCount 26 = .ok (.goto 4, 3) := by decide +kernel
theorem dX4_childCount_29 : decode cX4_childCount 29 = .ok (.iconst 0, 1) := by decide +kernel
theorem dX4_childCount_30 : decode cX4_childCount 30 = .ok (.iadd, 1) := by decide +kernel
theorem dX4_childCount_31 : decode cX4_childCount 31 = .ok (.istore_n 2, 1) := by decide +kernel
theorem dX4_childCount_32 : decode cX4_childCount 32 = .ok (.iinc 3 1, 3) := by decide +kernel
theorem dX4_childCount_35 : decode cX4_childCount 35 = .ok (.goto (-29), 3) := by decide +kernel
theorem dX4_childCount_38 : decode cX4_childCount 38 = .ok (.iload_n 2, 1) := by decide +kernel
theorem dX4_childCount_39 : decode cX4_childCount 39 = .ok (.ireturn, 1) := by decide +kernel
theorem dX4_childOf_0 : decode cX4_childOf 0 = .ok (.iload_n 2, 1) := by decide +kernel
theorem dX4_childOf_1 : decode cX4_childOf 1 = .ok (.istore_n 3, 1) := by decide +kernel
theorem dX4_childOf_2 : decode cX4_childOf 2 = .ok (.iload_n 1, 1) := by decide +kernel
theorem dX4_childOf_3 : decode cX4_childOf 3 = .ok (.iconst 1, 1) := by decide +kernel
theorem dX4_childOf_4 : decode cX4_childOf 4 = .ok (.iadd, 1) := by decide +kernel
theorem dX4_childOf_5 : decode cX4_childOf 5 = .ok (.istore 4, 2) := by decide +kernel
theorem dX4_childOf_7 : decode cX4_childOf 7 = .ok (.aload_n 0, 1) := by decide +kernel
theorem dX4_childOf_8 : decode cX4_childOf 8 = .ok (.getfield 25, 3) := by decide +kernel
theorem dX4_childOf_11 : decode cX4_childOf 11 = .ok (.iload 4, 2) := by decide +kernel
theorem dX4_childOf_13 : decode cX4_childOf 13 = .ok (.iaload, 1) := by decide +kernel
theorem dX4_childOf_14 : decode cX4_childOf 14 = .ok (.iload_n 1, 1) := by decide +kernel
theorem dX4_childOf_15 : decode cX4_childOf 15 = .ok (.if_icmp .ne 7, 3) := by decide +kernel
theorem dX4_childOf_18 : decode cX4_childOf 18 = .ok (.iload_n 3, 1) := by decide +kernel
theorem dX4_childOf_19 : decode cX4_childOf 19 = .ok (.ifCond .le 28, 3) := by decide +kernel
theorem dX4_childOf_22 : decode cX4_childOf 22 = .ok (.iload_n 3, 1) := by decide +kernel
theorem dX4_childOf_23 : decode cX4_childOf 23 = .ok (.aload_n 0, 1) := by decide +kernel
theorem dX4_childOf_24 : decode cX4_childOf 24 = .ok (.getfield 25, 3) := by decide +kernel
theorem dX4_childOf_27 : decode cX4_childOf 27 = .ok (.iload 4, 2) := by decide +kernel
theorem dX4_childOf_29 : decode cX4_childOf 29 = .ok (.iaload, 1) := by decide +kernel
theorem dX4_childOf_30 : decode cX4_childOf 30 = .ok (.iload_n 1, 1) := by decide +kernel
theorem dX4_childOf_31 : decode cX4_childOf 31 = .ok (.if_icmp .ne 7, 3) := by decide +kernel
theorem dX4_childOf_34 : decode cX4_childOf 34 = .ok (.iconst 1, 1) := by decide +kernel
theorem dX4_childOf_35 : decode cX4_childOf 35 = .ok (.goto 4, 3) := by decide +kernel
theorem dX4_childOf_38 : decode cX4_childOf 38 = .ok (.iconst 0, 1) := by decide +kernel
theorem dX4_childOf_39 : decode cX4_childOf 39 = .ok (.isub, 1) := by decide +kernel
theorem dX4_childOf_40 : decode cX4_childOf 40 = .ok (.istore_n 3, 1) := by decide +kernel
theorem dX4_childOf_41 : decode cX4_childOf 41 = .ok (.iinc 4 1, 3) := by decide +kernel
theorem dX4_childOf_44 : decode cX4_childOf 44 = .ok (.goto (-37), 3) := by decide +kernel
theorem dX4_childOf_47 : decode cX4_childOf 47 = .ok (.iload 4, 2) := by decide +kernel
theorem dX4_childOf_49 : decode cX4_childOf 49 = .ok (.ireturn, 1) := by decide +kernel
theorem dX4_children_0 : decode cX4_children 0 = .ok (.aload_n 0, 1) := by decide +kernel
theorem dX4_children_1 : decode cX4_children 1 = .ok (.iload_n 1, 1) := by decide +kernel
theorem dX4_children_2 : decode cX4_children 2 = .ok (.aload_n 0, 1) := by decide +kernel
theorem dX4_children_3 : decode cX4_children 3 = .ok (.getfield 94, 3) := by decide +kernel
theorem dX4_children_6 : decode cX4_children 6 = .ok (.invokevirtual 155, 3) := by decide +kernel
theorem dX4_children_9 : decode cX4_children 9 = .ok (.ifCond .eq 11, 3) := by decide +kernel
theorem dX4_children_12 : decode cX4_children 12 = .ok (.aload_n 0, 1) := by decide +kernel
theorem dX4_children_13 : decode cX4_children 13 = .ok (.iload_n 1, 1) := by decide +kernel
theorem dX4_children_14 : decode cX4_children 14 = .ok (.invokevirtual 158, 3) := by decide +kernel
theorem dX4_children_17 : decode cX4_children 17 = .ok (.goto 4, 3) := by decide +kernel
theorem dX4_children_20 : decode cX4_children 20 = .ok (.iconst 0, 1) := by decide +kernel
theorem dX4_children_21 : decode cX4_children 21 = .ok (.ireturn, 1) := by decide +kernel
theorem dX4_child_0 : decode cX4_child 0 = .ok (.aload_n 0, 1) := by decide +kernel
theorem dX4_child_1 : decode cX4_child 1 = .ok (.iload_n 1, 1) := by decide +kernel
theorem dX4_child_2 : decode cX4_child 2 = .ok (.aload_n 0, 1) := by decide +kernel
theorem dX4_child_3 : decode cX4_child 3 = .ok (.getfield 94, 3) := by decide +kernel
theorem dX4_child_6 : decode cX4_child 6 = .ok (.invokevirtual 155, 3) := by decide +kernel
theorem dX4_child_9 : decode cX4_child 9 = .ok (.ifCond .eq 25, 3) := by decide +kernel
theorem dX4_child_12 : decode cX4_child 12 = .ok (.aload_n 0, 1) := by decide +kernel
theorem dX4_child_13 : decode cX4_child 13 = .ok (.iload_n 2, 1) := by decide +kernel
theorem dX4_child_14 : decode cX4_child 14 = .ok (.aload_n 0, 1) := by decide +kernel
theorem dX4_child_15 : decode cX4_child 15 = .ok (.iload_n 1, 1) := by decide +kernel
theorem dX4_child_16 : decode cX4_child 16 = .ok (.invokevirtual 158, 3) := by decide +kernel
theorem dX4_child_19 : decode cX4_child 19 = .ok (.invokevirtual 155, 3) := by decide +kernel
theorem dX4_child_22 : decode cX4_child 22 = .ok (.ifCond .eq 12, 3) := by decide +kernel
theorem dX4_child_25 : decode cX4_child 25 = .ok (.aload_n 0, 1) := by decide +kernel
theorem dX4_child_26 : decode cX4_child 26 = .ok (.iload_n 1, 1) := by decide +kernel
theorem dX4_child_27 : decode cX4_child 27 = .ok (.iload_n 2, 1) := by decide +kernel
theorem dX4_child_28 : decode cX4_child 28 = .ok (.invokevirtual 161, 3) := by decide +kernel
theorem dX4_child_31 : decode cX4_child 31 = .ok (.goto 4, 3) := by decide +kernel
theorem dX4_child_34 : decode cX4_child 34 = .ok (.iconst 0, 1) := by decide +kernel
theorem dX4_child_35 : decode cX4_child 35 = .ok (.ireturn, 1) := by decide +kernel
theorem dX4_shortestOf_0 : decode cX4_shortestOf 0 = .ok (.aload_n 0, 1) := by decide +kernel
theorem dX4_shortestOf_1 : decode cX4_shortestOf 1 = .ok (.iload_n 1, 1) := by decide +kernel
theorem dX4_shortestOf_2 : decode cX4_shortestOf 2 = .ok (.invokevirtual 158, 3) := by decide +kernel
theorem dX4_shortestOf_5 : decode cX4_shortestOf 5 = .ok (.istore_n 2, 1) := by decide +kernel
theorem dX4_shortestOf_6 : decode cX4_shortestOf 6 = .ok (.iload_n 2, 1) := by decide +kernel
theorem dX4_shortestOf_7 : decode cX4_shortestOf 7 = .ok (.ifCond .ne 19, 3) := by decide +kernel
theorem dX4_shortestOf_10 : decode cX4_shortestOf 10 = .ok (.aload_n 0, 1) := by decide +kernel
theorem dX4_shortestOf_11 : decode cX4_shortestOf 11 = .ok (.getfield 22, 3) := by decide +kernel
theorem dX4_shortestOf_14 : decode cX4_shortestOf 14 = .ok (.iload_n 1, 1) := by decide +kernel
theorem dX4_shortestOf_15 : decode cX4_shortestOf 15 = .ok (.iaload, 1) := by decide +kernel
theorem dX4_shortestOf_16 : decode cX4_shortestOf 16 = .ok (.iconst 1, 1) := by decide +kernel
theorem dX4_shortestOf_17 : decode cX4_shortestOf 17 = .ok (.if_icmp .ne 7, 3) := by decide +kernel
theorem dX4_shortestOf_20 : decode cX4_shortestOf 20 = .ok (.iconst 1, 1) := by decide +kernel
theorem dX4_shortestOf_21 : decode cX4_shortestOf 21 = .ok (.goto 4, 3) := by decide +kernel
theorem dX4_shortestOf_24 : decode cX4_shortestOf 24 = .ok (.iconst 0, 1) := by decide +kernel
theorem dX4_shortestOf_25 : decode cX4_shortestOf 25 = .ok (.ireturn, 1) := by decide +kernel
theorem dX4_shortestOf_26 : decode cX4_shortestOf 26 = .ok (.aload_n 0, 1) := by decide +kernel
theorem dX4_shortestOf_27 : decode cX4_shortestOf 27 = .ok (.aload_n 0, 1) := by decide +kernel
theorem dX4_shortestOf_28 : decode cX4_shortestOf 28 = .ok (.iload_n 1, 1) := by decide +kernel
theorem dX4_shortestOf_29 : decode cX4_shortestOf 29 = .ok (.iconst 0, 1) := by decide +kernel
theorem dX4_shortestOf_30 : decode cX4_shortestOf 30 = .ok (.invokevirtual 161, 3) := by decide +kernel
theorem dX4_shortestOf_33 : decode cX4_shortestOf 33 = .ok (.invokevirtual 164, 3) := by decide +kernel
theorem dX4_shortestOf_36 : decode cX4_shortestOf 36 = .ok (.istore_n 3, 1) := by decide +kernel
theorem dX4_shortestOf_37 : decode cX4_shortestOf 37 = .ok (.iconst 1, 1) := by decide +kernel
theorem dX4_shortestOf_38 : decode cX4_shortestOf 38 = .ok (.istore 4, 2) := by decide +kernel
theorem dX4_shortestOf_40 : decode cX4_shortestOf 40 = .ok (.iload 4, 2) := by decide +kernel
theorem dX4_shortestOf_42 : decode cX4_shortestOf 42 = .ok (.iload_n 2, 1) := by decide +kernel
theorem dX4_shortestOf_43 : decode cX4_shortestOf 43 = .ok (.if_icmp .ge 56, 3) := by decide +kernel
theorem dX4_shortestOf_46 : decode cX4_shortestOf 46 = .ok (.aload_n 0, 1) := by decide +kernel
theorem dX4_shortestOf_47 : decode cX4_shortestOf 47 = .ok (.getfield 22, 3) := by decide +kernel
theorem dX4_shortestOf_50 : decode cX4_shortestOf 50 = .ok (.iload_n 1, 1) := by decide +kernel
theorem dX4_shortestOf_51 : decode cX4_shortestOf 51 = .ok (.iaload, 1) := by decide +kernel
theorem dX4_shortestOf_52 : decode cX4_shortestOf 52 = .ok (.iconst 5, 1) := by decide +kernel
theorem dX4_shortestOf_53 : decode cX4_shortestOf 53 = .ok (.if_icmp .eq 46, 3) := by decide +kernel
theorem dX4_shortestOf_56 : decode cX4_shortestOf 56 = .ok (.aload_n 0, 1) := by decide +kernel
theorem dX4_shortestOf_57 : decode cX4_shortestOf 57 = .ok (.aload_n 0, 1) := by decide +kernel
theorem dX4_shortestOf_58 : decode cX4_shortestOf 58 = .ok (.iload_n 1, 1) := by decide +kernel
theorem dX4_shortestOf_59 : decode cX4_shortestOf 59 = .ok (.iload 4, 2) := by decide +kernel
theorem dX4_shortestOf_61 : decode cX4_shortestOf 61 = .ok (.invokevirtual 161, 3) := by decide +kernel
theorem dX4_shortestOf_64 : decode cX4_shortestOf 64 = .ok (.invokevirtual 164, 3) := by decide +kernel
theorem dX4_shortestOf_67 : decode cX4_shortestOf 67 = .ok (.istore 5, 2) := by decide +kernel
theorem dX4_shortestOf_69 : decode cX4_shortestOf 69 = .ok (.aload_n 0, 1) := by decide +kernel
theorem dX4_shortestOf_70 : decode cX4_shortestOf 70 = .ok (.getfield 22, 3) := by decide +kernel
theorem dX4_shortestOf_73 : decode cX4_shortestOf 73 = .ok (.iload_n 1, 1) := by decide +kernel
theorem dX4_shortestOf_74 : decode cX4_shortestOf 74 = .ok (.iaload, 1) := by decide +kernel
theorem dX4_shortestOf_75 : decode cX4_shortestOf 75 = .ok (.iconst 2, 1) := by decide +kernel
theorem dX4_shortestOf_76 : decode cX4_shortestOf 76 = .ok (.if_icmp .ne 12, 3) := by decide +kernel
theorem dX4_shortestOf_79 : decode cX4_shortestOf 79 = .ok (.iload_n 3, 1) := by decide +kernel
theorem dX4_shortestOf_80 : decode cX4_shortestOf 80 = .ok (.iload 5, 2) := by decide +kernel
theorem dX4_shortestOf_82 : decode cX4_shortestOf 82 = .ok (.invokestatic 145, 3) := by decide +kernel
theorem dX4_shortestOf_85 : decode cX4_shortestOf 85 = .ok (.goto 7, 3) := by decide +kernel
theorem dX4_shortestOf_88 : decode cX4_shortestOf 88 = .ok (.iload_n 3, 1) := by decide +kernel
theorem dX4_shortestOf_89 : decode cX4_shortestOf 89 = .ok (.iload 5, 2) := by decide +kernel
theorem dX4_shortestOf_91 : decode cX4_shortestOf 91 = .ok (.iadd, 1) := by decide +kernel
theorem dX4_shortestOf_92 : decode cX4_shortestOf 92 = .ok (.istore_n 3, 1) := by decide +kernel
theorem dX4_shortestOf_93 : decode cX4_shortestOf 93 = .ok (.iinc 4 1, 3) := by decide +kernel
theorem dX4_shortestOf_96 : decode cX4_shortestOf 96 = .ok (.goto (-56), 3) := by decide +kernel
theorem dX4_shortestOf_99 : decode cX4_shortestOf 99 = .ok (.iload_n 3, 1) := by decide +kernel
theorem dX4_shortestOf_100 : decode cX4_shortestOf 100 = .ok (.ireturn, 1) := by decide +kernel
theorem dX4_shortest_0 : decode cX4_shortest 0 = .ok (.aload_n 0, 1) := by decide +kernel
theorem dX4_shortest_1 : decode cX4_shortest 1 = .ok (.iload_n 1, 1) := by decide +kernel
theorem dX4_shortest_2 : decode cX4_shortest 2 = .ok (.aload_n 0, 1) := by decide +kernel
theorem dX4_shortest_3 : decode cX4_shortest 3 = .ok (.getfield 94, 3) := by decide +kernel
theorem dX4_shortest_6 : decode cX4_shortest 6 = .ok (.invokevirtual 155, 3) := by decide +kernel
theorem dX4_shortest_9 : decode cX4_shortest 9 = .ok (.ifCond .eq 11, 3) := by decide +kernel
theorem dX4_shortest_12 : decode cX4_shortest 12 = .ok (.aload_n 0, 1) := by decide +kernel
theorem dX4_shortest_13 : decode cX4_shortest 13 = .ok (.iload_n 1, 1) := by decide +kernel
theorem dX4_shortest_14 : decode cX4_shortest 14 = .ok (.invokevirtual 164, 3) := by decide +kernel
theorem dX4_shortest_17 : decode cX4_shortest 17 = .ok (.goto 4, 3) := by decide +kernel
theorem dX4_shortest_20 : decode cX4_shortest 20 = .ok (.iconst 0, 1) := by decide +kernel
theorem dX4_shortest_21 : decode cX4_shortest 21 = .ok (.ireturn, 1) := by decide +kernel
theorem dX4_height_0 : decode cX4_height 0 = .ok (.aload_n 0, 1) := by decide +kernel
theorem dX4_height_1 : decode cX4_height 1 = .ok (.iconst 0, 1) := by decide +kernel
theorem dX4_height_2 : decode cX4_height 2 = .ok (.iconst 1, 1) := by decide +kernel
theorem dX4_height_3 : decode cX4_height 3 = .ok (.invokevirtual 155, 3) := by decide +kernel
theorem dX4_height_6 : decode cX4_height 6 = .ok (.ifCond .ne 5, 3) := by decide +kernel
theorem dX4_height_9 : decode cX4_height 9 = .ok (.iconst 0, 1) := by decide +kernel
theorem dX4_height_10 : decode cX4_height 10 = .ok (.ireturn, 1) := by decide +kernel
theorem dX4_height_11 : decode cX4_height 11 = .ok (.iconst 0, 1) := by decide +kernel
theorem dX4_height_12 : decode cX4_height 12 = .ok (.istore_n 1, 1) := by decide +kernel
theorem dX4_height_13 : decode cX4_height 13 = .ok (.iconst 0, 1) := by decide +kernel
theorem dX4_height_14 : decode cX4_height 14 = .ok (.istore_n 2, 1) := by decide +kernel
theorem dX4_height_15 : decode cX4_height 15 = .ok (.iload_n 2, 1) := by decide +kernel
theorem dX4_height_16 : decode cX4_height 16 = .ok (.aload_n 0, 1) := by decide +kernel
theorem dX4_height_17 : decode cX4_height 17 = .ok (.getfield 94, 3) := by decide +kernel
theorem dX4_height_20 : decode cX4_height 20 = .ok (.if_icmp .ge 41, 3) := by decide +kernel
theorem dX4_height_23 : decode cX4_height 23 = .ok (.iconst 0, 1) := by decide +kernel
theorem dX4_height_24 : decode cX4_height 24 = .ok (.istore_n 3, 1) := by decide +kernel
theorem dX4_height_25 : decode cX4_height 25 = .ok (.iload_n 2, 1) := by decide +kernel
theorem dX4_height_26 : decode cX4_height 26 = .ok (.istore 4, 2) := by decide +kernel
theorem dX4_height_28 : decode cX4_height 28 = .ok (.iload 4, 2) := by decide +kernel
theorem dX4_height_30 : decode cX4_height 30 = .ok (.iconst (-1), 1) := by decide +kernel
theorem dX4_height_31 : decode cX4_height 31 = .ok (.if_icmp .eq 18, 3) := by decide +kernel
theorem dX4_height_34 : decode cX4_height 34 = .ok (.iinc 3 1, 3) := by decide +kernel
theorem dX4_height_37 : decode cX4_height 37 = .ok (.aload_n 0, 1) := by decide +kernel
theorem dX4_height_38 : decode cX4_height 38 = .ok (.getfield 25, 3) := by decide +kernel
theorem dX4_height_41 : decode cX4_height 41 = .ok (.iload 4, 2) := by decide +kernel
theorem dX4_height_43 : decode cX4_height 43 = .ok (.iaload, 1) := by decide +kernel
theorem dX4_height_44 : decode cX4_height 44 = .ok (.istore 4, 2) := by decide +kernel
theorem dX4_height_46 : decode cX4_height 46 = .ok (.goto (-18), 3) := by decide +kernel
theorem dX4_height_49 : decode cX4_height 49 = .ok (.iload_n 1, 1) := by decide +kernel
theorem dX4_height_50 : decode cX4_height 50 = .ok (.iload_n 3, 1) := by decide +kernel
theorem dX4_height_51 : decode cX4_height 51 = .ok (.invokestatic 89, 3) := by decide +kernel
theorem dX4_height_54 : decode cX4_height 54 = .ok (.istore_n 1, 1) := by decide +kernel
theorem dX4_height_55 : decode cX4_height 55 = .ok (.iinc 2 1, 3) := by decide +kernel
theorem dX4_height_58 : decode cX4_height 58 = .ok (.goto (-43), 3) := by decide +kernel
theorem dX4_height_61 : decode cX4_height 61 = .ok (.iload_n 1, 1) := by decide +kernel
theorem dX4_height_62 : decode cX4_height 62 = .ok (.ireturn, 1) := by decide +kernel
theorem dX4_placesOf_0 : decode cX4_placesOf 0 = .ok (.iconst 0, 1) := by decide +kernel
theorem dX4_placesOf_1 : decode cX4_placesOf 1 = .ok (.istore_n 3, 1) := by decide +kernel
theorem dX4_placesOf_2 : decode cX4_placesOf 2 = .ok (.iconst 0, 1) := by decide +kernel
theorem dX4_placesOf_3 : decode cX4_placesOf 3 = .ok (.istore 4, 2) := by decide +kernel
theorem dX4_placesOf_5 : decode cX4_placesOf 5 = .ok (.iload 4, 2) := by decide +kernel
theorem dX4_placesOf_7 : decode cX4_placesOf 7 = .ok (.bipush 12, 2) := by decide +kernel
theorem dX4_placesOf_9 : decode cX4_placesOf 9 = .ok (.if_icmp .ge 39, 3) := by decide +kernel
theorem dX4_placesOf_12 : decode cX4_placesOf 12 = .ok (.iload_n 1, 1) := by decide +kernel
theorem dX4_placesOf_13 : decode cX4_placesOf 13 = .ok (.iload 4, 2) := by decide +kernel
theorem dX4_placesOf_15 : decode cX4_placesOf 15 = .ok (.invokestatic 66, 3) := by decide +kernel
theorem dX4_placesOf_18 : decode cX4_placesOf 18 = .ok (.ifCond .eq 24, 3) := by decide +kernel
theorem dX4_placesOf_21 : decode cX4_placesOf 21 = .ok (.iload_n 2, 1) := by decide +kernel
theorem dX4_placesOf_22 : decode cX4_placesOf 22 = .ok (.aload_n 0, 1) := by decide +kernel
theorem dX4_placesOf_23 : decode cX4_placesOf 23 = .ok (.getfield 31, 3) := by decide +kernel
theorem dX4_placesOf_26 : decode cX4_placesOf 26 = .ok (.iload 4, 2) := by decide +kernel
theorem dX4_placesOf_28 : decode cX4_placesOf 28 = .ok (.iaload, 1) := by decide +kernel
theorem dX4_placesOf_29 : decode cX4_placesOf 29 = .ok (.invokestatic 66, 3) := by decide +kernel
theorem dX4_placesOf_32 : decode cX4_placesOf 32 = .ok (.ifCond .eq 10, 3) := by decide +kernel
theorem dX4_placesOf_35 : decode cX4_placesOf 35 = .ok (.iload_n 3, 1) := by decide +kernel
theorem dX4_placesOf_36 : decode cX4_placesOf 36 = .ok (.iconst 1, 1) := by decide +kernel
theorem dX4_placesOf_37 : decode cX4_placesOf 37 = .ok (.iload 4, 2) := by decide +kernel
theorem dX4_placesOf_39 : decode cX4_placesOf 39 = .ok (.ishl, 1) := by decide +kernel
theorem dX4_placesOf_40 : decode cX4_placesOf 40 = .ok (.ior, 1) := by decide +kernel
theorem dX4_placesOf_41 : decode cX4_placesOf 41 = .ok (.istore_n 3, 1) := by decide +kernel
theorem dX4_placesOf_42 : decode cX4_placesOf 42 = .ok (.iinc 4 1, 3) := by decide +kernel
theorem dX4_placesOf_45 : decode cX4_placesOf 45 = .ok (.goto (-40), 3) := by decide +kernel
theorem dX4_placesOf_48 : decode cX4_placesOf 48 = .ok (.iload_n 3, 1) := by decide +kernel
theorem dX4_placesOf_49 : decode cX4_placesOf 49 = .ok (.ireturn, 1) := by decide +kernel
theorem dX4_until_0 : decode cX4_until 0 = .ok (.iload_n 0, 1) := by decide +kernel
theorem dX4_until_1 : decode cX4_until 1 = .ok (.iconst 1, 1) := by decide +kernel
theorem dX4_until_2 : decode cX4_until 2 = .ok (.iload_n 1, 1) := by decide +kernel
theorem dX4_until_3 : decode cX4_until 3 = .ok (.ishl, 1) := by decide +kernel
theorem dX4_until_4 : decode cX4_until 4 = .ok (.iconst 1, 1) := by decide +kernel
theorem dX4_until_5 : decode cX4_until 5 = .ok (.isub, 1) := by decide +kernel
theorem dX4_until_6 : decode cX4_until 6 = .ok (.iand, 1) := by decide +kernel
theorem dX4_until_7 : decode cX4_until 7 = .ok (.ireturn, 1) := by decide +kernel
theorem dX4_isCut_0 : decode cX4_isCut 0 = .ok (.iload_n 1, 1) := by decide +kernel
theorem dX4_isCut_1 : decode cX4_isCut 1 = .ok (.ifCond .eq 13, 3) := by decide +kernel
theorem dX4_isCut_4 : decode cX4_isCut 4 = .ok (.iload_n 0, 1) := by decide +kernel
theorem dX4_isCut_5 : decode cX4_isCut 5 = .ok (.iload_n 1, 1) := by decide +kernel
theorem dX4_isCut_6 : decode cX4_isCut 6 = .ok (.iconst 1, 1) := by decide +kernel
theorem dX4_isCut_7 : decode cX4_isCut 7 = .ok (.isub, 1) := by decide +kernel
theorem dX4_isCut_8 : decode cX4_isCut 8 = .ok (.invokestatic 66, 3) := by decide +kernel
theorem dX4_isCut_11 : decode cX4_isCut 11 = .ok (.ifCond .eq 7, 3) := by decide +kernel
theorem dX4_isCut_14 : decode cX4_isCut 14 = .ok (.iconst 1, 1) := by decide +kernel
theorem dX4_isCut_15 : decode cX4_isCut 15 = .ok (.goto 4, 3) := by decide +kernel
theorem dX4_isCut_18 : decode cX4_isCut 18 = .ok (.iconst 0, 1) := by decide +kernel
theorem dX4_isCut_19 : decode cX4_isCut 19 = .ok (.ireturn, 1) := by decide +kernel
theorem dX4_isWord_0 : decode cX4_isWord 0 = .ok (.aload_n 0, 1) := by decide +kernel
theorem dX4_isWord_1 : decode cX4_isWord 1 = .ok (.iload_n 2, 1) := by decide +kernel
theorem dX4_isWord_2 : decode cX4_isWord 2 = .ok (.aload_n 0, 1) := by decide +kernel
theorem dX4_isWord_3 : decode cX4_isWord 3 = .ok (.getfield 28, 3) := by decide +kernel
theorem dX4_isWord_6 : decode cX4_isWord 6 = .ok (.iload_n 1, 1) := by decide +kernel
theorem dX4_isWord_7 : decode cX4_isWord 7 = .ok (.iaload, 1) := by decide +kernel
theorem dX4_isWord_8 : decode cX4_isWord 8 = .ok (.invokevirtual 167, 3) := by decide +kernel
theorem dX4_isWord_11 : decode cX4_isWord 11 = .ok (.iload_n 2, 1) := by decide +kernel
theorem dX4_isWord_12 : decode cX4_isWord 12 = .ok (.if_icmp .eq 5, 3) := by decide +kernel
theorem dX4_isWord_15 : decode cX4_isWord 15 = .ok (.iconst 0, 1) := by decide +kernel
theorem dX4_isWord_16 : decode cX4_isWord 16 = .ok (.ireturn, 1) := by decide +kernel
theorem dX4_isWord_17 : decode cX4_isWord 17 = .ok (.aload_n 0, 1) := by decide +kernel
theorem dX4_isWord_18 : decode cX4_isWord 18 = .ok (.getfield 22, 3) := by decide +kernel
theorem dX4_isWord_21 : decode cX4_isWord 21 = .ok (.iload_n 1, 1) := by decide +kernel
theorem dX4_isWord_22 : decode cX4_isWord 22 = .ok (.iaload, 1) := by decide +kernel
theorem dX4_isWord_23 : decode cX4_isWord 23 = .ok (.tableswitch 82 0 6 #[41, 51, 82, 67, 82, 75, 65], 41) := by decide +kernel
theorem dX4_isWord_64 : decode cX4_isWord 64 = .ok (.iload_n 2, 1) := by decide +kernel
theorem dX4_isWord_65 : decode cX4_isWord 65 = .ok (.ifCond .ne 7, 3) := by decide +kernel
theorem dX4_isWord_68 : decode cX4_isWord 68 = .ok (.iconst 1, 1) := by decide +kernel
theorem dX4_isWord_69 : decode cX4_isWord 69 = .ok (.goto 4, 3) := by decide +kernel
theorem dX4_isWord_72 : decode cX4_isWord 72 = .ok (.iconst 0, 1) := by decide +kernel
theorem dX4_isWord_73 : decode cX4_isWord 73 = .ok (.ireturn, 1) := by decide +kernel
theorem dX4_isWord_74 : decode cX4_isWord 74 = .ok (.iload_n 2, 1) := by decide +kernel
theorem dX4_isWord_75 : decode cX4_isWord 75 = .ok (.invokestatic 70, 3) := by decide +kernel
theorem dX4_isWord_78 : decode cX4_isWord 78 = .ok (.iconst 1, 1) := by decide +kernel
theorem dX4_isWord_79 : decode cX4_isWord 79 = .ok (.if_icmp .ne 7, 3) := by decide +kernel
theorem dX4_isWord_82 : decode cX4_isWord 82 = .ok (.iconst 1, 1) := by decide +kernel
theorem dX4_isWord_83 : decode cX4_isWord 83 = .ok (.goto 4, 3) := by decide +kernel
theorem dX4_isWord_86 : decode cX4_isWord 86 = .ok (.iconst 0, 1) := by decide +kernel
theorem dX4_isWord_87 : decode cX4_isWord 87 = .ok (.ireturn, 1) := by decide +kernel
theorem dX4_isWord_88 : decode cX4_isWord 88 = .ok (.iconst 1, 1) := by decide +kernel
theorem dX4_isWord_89 : decode cX4_isWord 89 = .ok (.ireturn, 1) := by decide +kernel
theorem dX4_isWord_90 : decode cX4_isWord 90 = .ok (.aload_n 0, 1) := by decide +kernel
theorem dX4_isWord_91 : decode cX4_isWord 91 = .ok (.iload_n 1, 1) := by decide +kernel
theorem dX4_isWord_92 : decode cX4_isWord 92 = .ok (.iconst 0, 1) := by decide +kernel
theorem dX4_isWord_93 : decode cX4_isWord 93 = .ok (.iload_n 2, 1) := by decide +kernel
theorem dX4_isWord_94 : decode cX4_isWord 94 = .ok (.invokevirtual 170, 3) := by decide +kernel
theorem dX4_isWord_97 : decode cX4_isWord 97 = .ok (.ireturn, 1) := by decide +kernel
theorem dX4_isWord_98 : decode cX4_isWord 98 = .ok (.aload_n 0, 1) := by decide +kernel
theorem dX4_isWord_99 : decode cX4_isWord 99 = .ok (.iload_n 1, 1) := by decide +kernel
theorem dX4_isWord_100 : decode cX4_isWord 100 = .ok (.iload_n 2, 1) := by decide +kernel
theorem dX4_isWord_101 : decode cX4_isWord 101 = .ok (.invokevirtual 174, 3) := by decide +kernel
theorem dX4_isWord_104 : decode cX4_isWord 104 = .ok (.ireturn, 1) := by decide +kernel
theorem dX4_isWord_105 : decode cX4_isWord 105 = .ok (.aload_n 0, 1) := by decide +kernel
theorem dX4_isWord_106 : decode cX4_isWord 106 = .ok (.iload_n 1, 1) := by decide +kernel
theorem dX4_isWord_107 : decode cX4_isWord 107 = .ok (.iload_n 2, 1) := by decide +kernel
theorem dX4_isWord_108 : decode cX4_isWord 108 = .ok (.invokevirtual 177, 3) := by decide +kernel
theorem dX4_isWord_111 : decode cX4_isWord 111 = .ok (.ireturn, 1) := by decide +kernel
theorem dX4_areWords_0 : decode cX4_areWords 0 = .ok (.aload_n 0, 1) := by decide +kernel
theorem dX4_areWords_1 : decode cX4_areWords 1 = .ok (.iload_n 1, 1) := by decide +kernel
theorem dX4_areWords_2 : decode cX4_areWords 2 = .ok (.invokevirtual 158, 3) := by decide +kernel
theorem dX4_areWords_5 : decode cX4_areWords 5 = .ok (.istore_n 3, 1) := by decide +kernel
theorem dX4_areWords_6 : decode cX4_areWords 6 = .ok (.aload_n 0, 1) := by decide +kernel
theorem dX4_areWords_7 : decode cX4_areWords 7 = .ok (.getfield 22, 3) := by decide +kernel
theorem dX4_areWords_10 : decode cX4_areWords 10 = .ok (.iload_n 1, 1) := by decide +kernel
theorem dX4_areWords_11 : decode cX4_areWords 11 = .ok (.iaload, 1) := by decide +kernel
theorem dX4_areWords_12 : decode cX4_areWords 12 = .ok (.iconst 2, 1) := by decide +kernel
theorem dX4_areWords_13 : decode cX4_areWords 13 = .ok (.if_icmp .ne 7, 3) := by decide +kernel
theorem dX4_areWords_16 : decode cX4_areWords 16 = .ok (.iconst 1, 1) := by decide +kernel
theorem dX4_areWords_17 : decode cX4_areWords 17 = .ok (.goto 4, 3) := by decide +kernel
theorem dX4_areWords_20 : decode cX4_areWords 20 = .ok (.iconst 0, 1) := by decide +kernel
theorem dX4_areWords_21 : decode cX4_areWords 21 = .ok (.istore 4, 2) := by decide +kernel
theorem dX4_areWords_23 : decode cX4_areWords 23 = .ok (.iload 4, 2) := by decide +kernel
theorem dX4_areWords_25 : decode cX4_areWords 25 = .ok (.ifCond .ne 7, 3) := by decide +kernel
theorem dX4_areWords_28 : decode cX4_areWords 28 = .ok (.iconst 1, 1) := by decide +kernel
theorem dX4_areWords_29 : decode cX4_areWords 29 = .ok (.goto 4, 3) := by decide +kernel
theorem dX4_areWords_32 : decode cX4_areWords 32 = .ok (.iconst 0, 1) := by decide +kernel
theorem dX4_areWords_33 : decode cX4_areWords 33 = .ok (.istore 5, 2) := by decide +kernel
theorem dX4_areWords_35 : decode cX4_areWords 35 = .ok (.iconst 0, 1) := by decide +kernel
theorem dX4_areWords_36 : decode cX4_areWords 36 = .ok (.istore 6, 2) := by decide +kernel
theorem dX4_areWords_38 : decode cX4_areWords 38 = .ok (.iload 6, 2) := by decide +kernel
theorem dX4_areWords_40 : decode cX4_areWords 40 = .ok (.iload_n 3, 1) := by decide +kernel
theorem dX4_areWords_41 : decode cX4_areWords 41 = .ok (.if_icmp .ge 54, 3) := by decide +kernel
theorem dX4_areWords_44 : decode cX4_areWords 44 = .ok (.iload 5, 2) := by decide +kernel
theorem dX4_areWords_46 : decode cX4_areWords 46 = .ok (.iload 4, 2) := by decide +kernel
theorem dX4_areWords_48 : decode cX4_areWords 48 = .ok (.if_icmp .eq 47, 3) := by decide +kernel
theorem dX4_areWords_51 : decode cX4_areWords 51 = .ok (.aload_n 0, 1) := by decide +kernel
theorem dX4_areWords_52 : decode cX4_areWords 52 = .ok (.iload_n 1, 1) := by decide +kernel
theorem dX4_areWords_53 : decode cX4_areWords 53 = .ok (.iload 6, 2) := by decide +kernel
theorem dX4_areWords_55 : decode cX4_areWords 55 = .ok (.invokevirtual 161, 3) := by decide +kernel
theorem dX4_areWords_58 : decode cX4_areWords 58 = .ok (.istore 7, 2) := by decide +kernel
theorem dX4_areWords_60 : decode cX4_areWords 60 = .ok (.aload_n 0, 1) := by decide +kernel
theorem dX4_areWords_61 : decode cX4_areWords 61 = .ok (.iload 7, 2) := by decide +kernel
theorem dX4_areWords_63 : decode cX4_areWords 63 = .ok (.iload 4, 2) := by decide +kernel
theorem dX4_areWords_65 : decode cX4_areWords 65 = .ok (.ifCond .eq 7, 3) := by decide +kernel
theorem dX4_areWords_68 : decode cX4_areWords 68 = .ok (.iload_n 2, 1) := by decide +kernel
theorem dX4_areWords_69 : decode cX4_areWords 69 = .ok (.goto 15, 3) := by decide +kernel
theorem dX4_areWords_72 : decode cX4_areWords 72 = .ok (.aload_n 0, 1) := by decide +kernel
theorem dX4_areWords_73 : decode cX4_areWords 73 = .ok (.iload_n 2, 1) := by decide +kernel
theorem dX4_areWords_74 : decode cX4_areWords 74 = .ok (.aload_n 0, 1) := by decide +kernel
theorem dX4_areWords_75 : decode cX4_areWords 75 = .ok (.getfield 28, 3) := by decide +kernel
theorem dX4_areWords_78 : decode cX4_areWords 78 = .ok (.iload 7, 2) := by decide +kernel
theorem dX4_areWords_80 : decode cX4_areWords 80 = .ok (.iaload, 1) := by decide +kernel
theorem dX4_areWords_81 : decode cX4_areWords 81 = .ok (.invokevirtual 167, 3) := by decide +kernel
theorem dX4_areWords_84 : decode cX4_areWords 84 = .ok (.invokevirtual 180, 3) := by decide +kernel
theorem dX4_areWords_87 : decode cX4_areWords 87 = .ok (.istore 5, 2) := by decide +kernel
theorem dX4_areWords_89 : decode cX4_areWords 89 = .ok (.iinc 6 1, 3) := by decide +kernel
theorem dX4_areWords_92 : decode cX4_areWords 92 = .ok (.goto (-54), 3) := by decide +kernel
theorem dX4_areWords_95 : decode cX4_areWords 95 = .ok (.iload 5, 2) := by decide +kernel
theorem dX4_areWords_97 : decode cX4_areWords 97 = .ok (.ireturn, 1) := by decide +kernel
theorem dX4_isOrder_0 : decode cX4_isOrder 0 = .ok (.aload_n 0, 1) := by decide +kernel
theorem dX4_isOrder_1 : decode cX4_isOrder 1 = .ok (.iload_n 1, 1) := by decide +kernel
theorem dX4_isOrder_2 : decode cX4_isOrder 2 = .ok (.iload_n 2, 1) := by decide +kernel
theorem dX4_isOrder_3 : decode cX4_isOrder 3 = .ok (.invokevirtual 161, 3) := by decide +kernel
theorem dX4_isOrder_6 : decode cX4_isOrder 6 = .ok (.istore 4, 2) := by decide +kernel
theorem dX4_isOrder_8 : decode cX4_isOrder 8 = .ok (.iload_n 2, 1) := by decide +kernel
theorem dX4_isOrder_9 : decode cX4_isOrder 9 = .ok (.aload_n 0, 1) := by decide +kernel
theorem dX4_isOrder_10 : decode cX4_isOrder 10 = .ok (.iload_n 1, 1) := by decide +kernel
theorem dX4_isOrder_11 : decode cX4_isOrder 11 = .ok (.invokevirtual 158, 3) := by decide +kernel
theorem dX4_isOrder_14 : decode cX4_isOrder 14 = .ok (.iconst 1, 1) := by decide +kernel
theorem dX4_isOrder_15 : decode cX4_isOrder 15 = .ok (.isub, 1) := by decide +kernel
theorem dX4_isOrder_16 : decode cX4_isOrder 16 = .ok (.if_icmp .ne 11, 3) := by decide +kernel
theorem dX4_isOrder_19 : decode cX4_isOrder 19 = .ok (.aload_n 0, 1) := by decide +kernel
theorem dX4_isOrder_20 : decode cX4_isOrder 20 = .ok (.iload 4, 2) := by decide +kernel
theorem dX4_isOrder_22 : decode cX4_isOrder 22 = .ok (.iload_n 3, 1) := by decide +kernel
theorem dX4_isOrder_23 : decode cX4_isOrder 23 = .ok (.invokevirtual 180, 3) := by decide +kernel
theorem dX4_isOrder_26 : decode cX4_isOrder 26 = .ok (.ireturn, 1) := by decide +kernel
theorem dX4_isOrder_27 : decode cX4_isOrder 27 = .ok (.iconst 0, 1) := by decide +kernel
theorem dX4_isOrder_28 : decode cX4_isOrder 28 = .ok (.istore 5, 2) := by decide +kernel
theorem dX4_isOrder_30 : decode cX4_isOrder 30 = .ok (.iconst 0, 1) := by decide +kernel
theorem dX4_isOrder_31 : decode cX4_isOrder 31 = .ok (.istore 6, 2) := by decide +kernel
theorem dX4_isOrder_33 : decode cX4_isOrder 33 = .ok (.iload 6, 2) := by decide +kernel
theorem dX4_isOrder_35 : decode cX4_isOrder 35 = .ok (.bipush 12, 2) := by decide +kernel
theorem dX4_isOrder_37 : decode cX4_isOrder 37 = .ok (.if_icmp .gt 66, 3) := by decide +kernel
theorem dX4_isOrder_40 : decode cX4_isOrder 40 = .ok (.iload 5, 2) := by decide +kernel
theorem dX4_isOrder_42 : decode cX4_isOrder 42 = .ok (.ifCond .ne 61, 3) := by decide +kernel
theorem dX4_isOrder_45 : decode cX4_isOrder 45 = .ok (.iload_n 3, 1) := by decide +kernel
theorem dX4_isOrder_46 : decode cX4_isOrder 46 = .ok (.iload 6, 2) := by decide +kernel
theorem dX4_isOrder_48 : decode cX4_isOrder 48 = .ok (.invokestatic 183, 3) := by decide +kernel
theorem dX4_isOrder_51 : decode cX4_isOrder 51 = .ok (.ifCond .eq 43, 3) := by decide +kernel
theorem dX4_isOrder_54 : decode cX4_isOrder 54 = .ok (.aload_n 0, 1) := by decide +kernel
theorem dX4_isOrder_55 : decode cX4_isOrder 55 = .ok (.iload 4, 2) := by decide +kernel
theorem dX4_isOrder_57 : decode cX4_isOrder 57 = .ok (.iload_n 3, 1) := by decide +kernel
theorem dX4_isOrder_58 : decode cX4_isOrder 58 = .ok (.iload 6, 2) := by decide +kernel
theorem dX4_isOrder_60 : decode cX4_isOrder 60 = .ok (.invokestatic 186, 3) := by decide +kernel
theorem dX4_isOrder_63 : decode cX4_isOrder 63 = .ok (.invokevirtual 180, 3) := by decide +kernel
theorem dX4_isOrder_66 : decode cX4_isOrder 66 = .ok (.ifCond .eq 28, 3) := by decide +kernel
theorem dX4_isOrder_69 : decode cX4_isOrder 69 = .ok (.aload_n 0, 1) := by decide +kernel
theorem dX4_isOrder_70 : decode cX4_isOrder 70 = .ok (.iload_n 1, 1) := by decide +kernel
theorem dX4_isOrder_71 : decode cX4_isOrder 71 = .ok (.iload_n 2, 1) := by decide +kernel
theorem dX4_isOrder_72 : decode cX4_isOrder 72 = .ok (.iconst 1, 1) := by decide +kernel
theorem dX4_isOrder_73 : decode cX4_isOrder 73 = .ok (.iadd, 1) := by decide +kernel
theorem dX4_isOrder_74 : decode cX4_isOrder 74 = .ok (.iload_n 3, 1) := by decide +kernel
theorem dX4_isOrder_75 : decode cX4_isOrder 75 = .ok (.iload_n 3, 1) := by decide +kernel
theorem dX4_isOrder_76 : decode cX4_isOrder 76 = .ok (.iload 6, 2) := by decide +kernel
theorem dX4_isOrder_78 : decode cX4_isOrder 78 = .ok (.invokestatic 186, 3) := by decide +kernel
theorem dX4_isOrder_81 : decode cX4_isOrder 81 = .ok (.iconst (-1), 1) := by decide +kernel
theorem dX4_isOrder_82 : decode cX4_isOrder 82 = .ok (.ixor, 1) := by decide +kernel
theorem dX4_isOrder_83 : decode cX4_isOrder 83 = .ok (.iand, 1) := by decide +kernel
theorem dX4_isOrder_84 : decode cX4_isOrder 84 = .ok (.invokevirtual 170, 3) := by decide +kernel
theorem dX4_isOrder_87 : decode cX4_isOrder 87 = .ok (.ifCond .eq 7, 3) := by decide +kernel
theorem dX4_isOrder_90 : decode cX4_isOrder 90 = .ok (.iconst 1, 1) := by decide +kernel
theorem dX4_isOrder_91 : decode cX4_isOrder 91 = .ok (.goto 4, 3) := by decide +kernel
theorem dX4_isOrder_94 : decode cX4_isOrder 94 = .ok (.iconst 0, 1) := by decide +kernel
theorem dX4_isOrder_95 : decode cX4_isOrder 95 = .ok (.istore 5, 2) := by decide +kernel
theorem dX4_isOrder_97 : decode cX4_isOrder 97 = .ok (.iinc 6 1, 3) := by decide +kernel
theorem dX4_isOrder_100 : decode cX4_isOrder 100 = .ok (.goto (-67), 3) := by decide +kernel
theorem dX4_isOrder_103 : decode cX4_isOrder 103 = .ok (.iload 5, 2) := by decide +kernel
theorem dX4_isOrder_105 : decode cX4_isOrder 105 = .ok (.ireturn, 1) := by decide +kernel
theorem dX4_isAgain_0 : decode cX4_isAgain 0 = .ok (.aload_n 0, 1) := by decide +kernel
theorem dX4_isAgain_1 : decode cX4_isAgain 1 = .ok (.iload_n 1, 1) := by decide +kernel
theorem dX4_isAgain_2 : decode cX4_isAgain 2 = .ok (.iconst 0, 1) := by decide +kernel
theorem dX4_isAgain_3 : decode cX4_isAgain 3 = .ok (.invokevirtual 161, 3) := by decide +kernel
theorem dX4_isAgain_6 : decode cX4_isAgain 6 = .ok (.istore_n 3, 1) := by decide +kernel
theorem dX4_isAgain_7 : decode cX4_isAgain 7 = .ok (.aload_n 0, 1) := by decide +kernel
theorem dX4_isAgain_8 : decode cX4_isAgain 8 = .ok (.iload_n 3, 1) := by decide +kernel
theorem dX4_isAgain_9 : decode cX4_isAgain 9 = .ok (.iload_n 2, 1) := by decide +kernel
theorem dX4_isAgain_10 : decode cX4_isAgain 10 = .ok (.invokevirtual 180, 3) := by decide +kernel
theorem dX4_isAgain_13 : decode cX4_isAgain 13 = .ok (.istore 4, 2) := by decide +kernel
theorem dX4_isAgain_15 : decode cX4_isAgain 15 = .ok (.iconst 0, 1) := by decide +kernel
theorem dX4_isAgain_16 : decode cX4_isAgain 16 = .ok (.istore 5, 2) := by decide +kernel
theorem dX4_isAgain_18 : decode cX4_isAgain 18 = .ok (.iload 5, 2) := by decide +kernel
theorem dX4_isAgain_20 : decode cX4_isAgain 20 = .ok (.bipush 12, 2) := by decide +kernel
theorem dX4_isAgain_22 : decode cX4_isAgain 22 = .ok (.if_icmp .gt 56, 3) := by decide +kernel
theorem dX4_isAgain_25 : decode cX4_isAgain 25 = .ok (.iload 4, 2) := by decide +kernel
theorem dX4_isAgain_27 : decode cX4_isAgain 27 = .ok (.ifCond .ne 51, 3) := by decide +kernel
theorem dX4_isAgain_30 : decode cX4_isAgain 30 = .ok (.iload_n 2, 1) := by decide +kernel
theorem dX4_isAgain_31 : decode cX4_isAgain 31 = .ok (.iload 5, 2) := by decide +kernel
theorem dX4_isAgain_33 : decode cX4_isAgain 33 = .ok (.invokestatic 186, 3) := by decide +kernel
theorem dX4_isAgain_36 : decode cX4_isAgain 36 = .ok (.istore 6, 2) := by decide +kernel
theorem dX4_isAgain_38 : decode cX4_isAgain 38 = .ok (.iload_n 2, 1) := by decide +kernel
theorem dX4_isAgain_39 : decode cX4_isAgain 39 = .ok (.iload 5, 2) := by decide +kernel
theorem dX4_isAgain_41 : decode cX4_isAgain 41 = .ok (.invokestatic 183, 3) := by decide +kernel
theorem dX4_isAgain_44 : decode cX4_isAgain 44 = .ok (.ifCond .eq 28, 3) := by decide +kernel
theorem dX4_isAgain_47 : decode cX4_isAgain 47 = .ok (.aload_n 0, 1) := by decide +kernel
theorem dX4_isAgain_48 : decode cX4_isAgain 48 = .ok (.iload_n 3, 1) := by decide +kernel
theorem dX4_isAgain_49 : decode cX4_isAgain 49 = .ok (.iload 6, 2) := by decide +kernel
theorem dX4_isAgain_51 : decode cX4_isAgain 51 = .ok (.invokevirtual 180, 3) := by decide +kernel
theorem dX4_isAgain_54 : decode cX4_isAgain 54 = .ok (.ifCond .eq 18, 3) := by decide +kernel
theorem dX4_isAgain_57 : decode cX4_isAgain 57 = .ok (.aload_n 0, 1) := by decide +kernel
theorem dX4_isAgain_58 : decode cX4_isAgain 58 = .ok (.iload_n 1, 1) := by decide +kernel
theorem dX4_isAgain_59 : decode cX4_isAgain 59 = .ok (.iload 6, 2) := by decide +kernel
theorem dX4_isAgain_61 : decode cX4_isAgain 61 = .ok (.iload_n 2, 1) := by decide +kernel
theorem dX4_isAgain_62 : decode cX4_isAgain 62 = .ok (.iload 6, 2) := by decide +kernel
theorem dX4_isAgain_64 : decode cX4_isAgain 64 = .ok (.iconst (-1), 1) := by decide +kernel
theorem dX4_isAgain_65 : decode cX4_isAgain 65 = .ok (.ixor, 1) := by decide +kernel
theorem dX4_isAgain_66 : decode cX4_isAgain 66 = .ok (.iand, 1) := by decide +kernel
theorem dX4_isAgain_67 : decode cX4_isAgain 67 = .ok (.invokevirtual 189, 3) := by decide +kernel
theorem dX4_isAgain_70 : decode cX4_isAgain 70 = .ok (.istore 4, 2) := by decide +kernel
theorem dX4_isAgain_72 : decode cX4_isAgain 72 = .ok (.iinc 5 1, 3) := by decide +kernel
theorem dX4_isAgain_75 : decode cX4_isAgain 75 = .ok (.goto (-57), 3) := by decide +kernel
theorem dX4_isAgain_78 : decode cX4_isAgain 78 = .ok (.iload 4, 2) := by decide +kernel
theorem dX4_isAgain_80 : decode cX4_isAgain 80 = .ok (.ireturn, 1) := by decide +kernel
theorem dX4_goesOn_0 : decode cX4_goesOn 0 = .ok (.aload_n 0, 1) := by decide +kernel
theorem dX4_goesOn_1 : decode cX4_goesOn 1 = .ok (.iload_n 1, 1) := by decide +kernel
theorem dX4_goesOn_2 : decode cX4_goesOn 2 = .ok (.invokevirtual 158, 3) := by decide +kernel
theorem dX4_goesOn_5 : decode cX4_goesOn 5 = .ok (.istore 4, 2) := by decide +kernel
theorem dX4_goesOn_7 : decode cX4_goesOn 7 = .ok (.iconst 0, 1) := by decide +kernel
theorem dX4_goesOn_8 : decode cX4_goesOn 8 = .ok (.istore 5, 2) := by decide +kernel
theorem dX4_goesOn_10 : decode cX4_goesOn 10 = .ok (.iconst 1, 1) := by decide +kernel
theorem dX4_goesOn_11 : decode cX4_goesOn 11 = .ok (.istore 6, 2) := by decide +kernel
theorem dX4_goesOn_13 : decode cX4_goesOn 13 = .ok (.iload 6, 2) := by decide +kernel
theorem dX4_goesOn_15 : decode cX4_goesOn 15 = .ok (.iload 4, 2) := by decide +kernel
theorem dX4_goesOn_17 : decode cX4_goesOn 17 = .ok (.if_icmp .ge 92, 3) := by decide +kernel
theorem dX4_goesOn_20 : decode cX4_goesOn 20 = .ok (.iload 5, 2) := by decide +kernel
theorem dX4_goesOn_22 : decode cX4_goesOn 22 = .ok (.ifCond .ne 87, 3) := by decide +kernel
theorem dX4_goesOn_25 : decode cX4_goesOn 25 = .ok (.aload_n 0, 1) := by decide +kernel
theorem dX4_goesOn_26 : decode cX4_goesOn 26 = .ok (.iload_n 1, 1) := by decide +kernel
theorem dX4_goesOn_27 : decode cX4_goesOn 27 = .ok (.iload 6, 2) := by decide +kernel
theorem dX4_goesOn_29 : decode cX4_goesOn 29 = .ok (.invokevirtual 161, 3) := by decide +kernel
theorem dX4_goesOn_32 : decode cX4_goesOn 32 = .ok (.istore 7, 2) := by decide +kernel
theorem dX4_goesOn_34 : decode cX4_goesOn 34 = .ok (.iconst 0, 1) := by decide +kernel
theorem dX4_goesOn_35 : decode cX4_goesOn 35 = .ok (.istore 8, 2) := by decide +kernel
theorem dX4_goesOn_37 : decode cX4_goesOn 37 = .ok (.iload 8, 2) := by decide +kernel
theorem dX4_goesOn_39 : decode cX4_goesOn 39 = .ok (.bipush 12, 2) := by decide +kernel
theorem dX4_goesOn_41 : decode cX4_goesOn 41 = .ok (.if_icmp .gt 62, 3) := by decide +kernel
theorem dX4_goesOn_44 : decode cX4_goesOn 44 = .ok (.iload 5, 2) := by decide +kernel
theorem dX4_goesOn_46 : decode cX4_goesOn 46 = .ok (.ifCond .ne 57, 3) := by decide +kernel
theorem dX4_goesOn_49 : decode cX4_goesOn 49 = .ok (.iload_n 3, 1) := by decide +kernel
theorem dX4_goesOn_50 : decode cX4_goesOn 50 = .ok (.iload 8, 2) := by decide +kernel
theorem dX4_goesOn_52 : decode cX4_goesOn 52 = .ok (.invokestatic 186, 3) := by decide +kernel
theorem dX4_goesOn_55 : decode cX4_goesOn 55 = .ok (.istore 9, 2) := by decide +kernel
theorem dX4_goesOn_57 : decode cX4_goesOn 57 = .ok (.iload_n 3, 1) := by decide +kernel
theorem dX4_goesOn_58 : decode cX4_goesOn 58 = .ok (.iload 8, 2) := by decide +kernel
theorem dX4_goesOn_60 : decode cX4_goesOn 60 = .ok (.invokestatic 183, 3) := by decide +kernel
theorem dX4_goesOn_63 : decode cX4_goesOn 63 = .ok (.ifCond .eq 34, 3) := by decide +kernel
theorem dX4_goesOn_66 : decode cX4_goesOn 66 = .ok (.iload_n 2, 1) := by decide +kernel
theorem dX4_goesOn_67 : decode cX4_goesOn 67 = .ok (.iload 9, 2) := by decide +kernel
theorem dX4_goesOn_69 : decode cX4_goesOn 69 = .ok (.ior, 1) := by decide +kernel
theorem dX4_goesOn_70 : decode cX4_goesOn 70 = .ok (.ifCond .eq 27, 3) := by decide +kernel
theorem dX4_goesOn_73 : decode cX4_goesOn 73 = .ok (.aload_n 0, 1) := by decide +kernel
theorem dX4_goesOn_74 : decode cX4_goesOn 74 = .ok (.iload 7, 2) := by decide +kernel
theorem dX4_goesOn_76 : decode cX4_goesOn 76 = .ok (.iload 9, 2) := by decide +kernel
theorem dX4_goesOn_78 : decode cX4_goesOn 78 = .ok (.invokevirtual 180, 3) := by decide +kernel
theorem dX4_goesOn_81 : decode cX4_goesOn 81 = .ok (.ifCond .eq 16, 3) := by decide +kernel
theorem dX4_goesOn_84 : decode cX4_goesOn 84 = .ok (.aload_n 0, 1) := by decide +kernel
theorem dX4_goesOn_85 : decode cX4_goesOn 85 = .ok (.iload_n 1, 1) := by decide +kernel
theorem dX4_goesOn_86 : decode cX4_goesOn 86 = .ok (.iload_n 3, 1) := by decide +kernel
theorem dX4_goesOn_87 : decode cX4_goesOn 87 = .ok (.iload 9, 2) := by decide +kernel
theorem dX4_goesOn_89 : decode cX4_goesOn 89 = .ok (.iconst (-1), 1) := by decide +kernel
theorem dX4_goesOn_90 : decode cX4_goesOn 90 = .ok (.ixor, 1) := by decide +kernel
theorem dX4_goesOn_91 : decode cX4_goesOn 91 = .ok (.iand, 1) := by decide +kernel
theorem dX4_goesOn_92 : decode cX4_goesOn 92 = .ok (.invokevirtual 174, 3) := by decide +kernel
theorem dX4_goesOn_95 : decode cX4_goesOn 95 = .ok (.istore 5, 2) := by decide +kernel
theorem dX4_goesOn_97 : decode cX4_goesOn 97 = .ok (.iinc 8 1, 3) := by decide +kernel
theorem dX4_goesOn_100 : decode cX4_goesOn 100 = .ok (.goto (-63), 3) := by decide +kernel
theorem dX4_goesOn_103 : decode cX4_goesOn 103 = .ok (.iinc 6 1, 3) := by decide +kernel
theorem dX4_goesOn_106 : decode cX4_goesOn 106 = .ok (.goto (-93), 3) := by decide +kernel
theorem dX4_goesOn_109 : decode cX4_goesOn 109 = .ok (.iload 5, 2) := by decide +kernel
theorem dX4_goesOn_111 : decode cX4_goesOn 111 = .ok (.ireturn, 1) := by decide +kernel
theorem dX4_isTraceWord_0 : decode cX4_isTraceWord 0 = .ok (.iconst 0, 1) := by decide +kernel
theorem dX4_isTraceWord_1 : decode cX4_isTraceWord 1 = .ok (.istore_n 2, 1) := by decide +kernel
theorem dX4_isTraceWord_2 : decode cX4_isTraceWord 2 = .ok (.iload_n 2, 1) := by decide +kernel
theorem dX4_isTraceWord_3 : decode cX4_isTraceWord 3 = .ok (.aload_n 0, 1) := by decide +kernel
theorem dX4_isTraceWord_4 : decode cX4_isTraceWord 4 = .ok (.getfield 16, 3) := by decide +kernel
theorem dX4_isTraceWord_7 : decode cX4_isTraceWord 7 = .ok (.iload_n 1, 1) := by decide +kernel
theorem dX4_isTraceWord_8 : decode cX4_isTraceWord 8 = .ok (.iaload, 1) := by decide +kernel
theorem dX4_isTraceWord_9 : decode cX4_isTraceWord 9 = .ok (.if_icmp .ge 26, 3) := by decide +kernel
theorem dX4_isTraceWord_12 : decode cX4_isTraceWord 12 = .ok (.aload_n 0, 1) := by decide +kernel
theorem dX4_isTraceWord_13 : decode cX4_isTraceWord 13 = .ok (.getfield 31, 3) := by decide +kernel
theorem dX4_isTraceWord_16 : decode cX4_isTraceWord 16 = .ok (.iload_n 2, 1) := by decide +kernel
theorem dX4_isTraceWord_17 : decode cX4_isTraceWord 17 = .ok (.aload_n 0, 1) := by decide +kernel
theorem dX4_isTraceWord_18 : decode cX4_isTraceWord 18 = .ok (.getfield 19, 3) := by decide +kernel
theorem dX4_isTraceWord_21 : decode cX4_isTraceWord 21 = .ok (.bipush 12, 2) := by decide +kernel
theorem dX4_isTraceWord_23 : decode cX4_isTraceWord 23 = .ok (.iload_n 1, 1) := by decide +kernel
theorem dX4_isTraceWord_24 : decode cX4_isTraceWord 24 = .ok (.imul, 1) := by decide +kernel
theorem dX4_isTraceWord_25 : decode cX4_isTraceWord 25 = .ok (.iload_n 2, 1) := by decide +kernel
theorem dX4_isTraceWord_26 : decode cX4_isTraceWord 26 = .ok (.iadd, 1) := by decide +kernel
theorem dX4_isTraceWord_27 : decode cX4_isTraceWord 27 = .ok (.iaload, 1) := by decide +kernel
theorem dX4_isTraceWord_28 : decode cX4_isTraceWord 28 = .ok (.iastore, 1) := by decide +kernel
theorem dX4_isTraceWord_29 : decode cX4_isTraceWord 29 = .ok (.iinc 2 1, 3) := by decide +kernel
theorem dX4_isTraceWord_32 : decode cX4_isTraceWord 32 = .ok (.goto (-30), 3) := by decide +kernel
theorem dX4_isTraceWord_35 : decode cX4_isTraceWord 35 = .ok (.aload_n 0, 1) := by decide +kernel
theorem dX4_isTraceWord_36 : decode cX4_isTraceWord 36 = .ok (.iconst 0, 1) := by decide +kernel
theorem dX4_isTraceWord_37 : decode cX4_isTraceWord 37 = .ok (.iconst 1, 1) := by decide +kernel
theorem dX4_isTraceWord_38 : decode cX4_isTraceWord 38 = .ok (.aload_n 0, 1) := by decide +kernel
theorem dX4_isTraceWord_39 : decode cX4_isTraceWord 39 = .ok (.getfield 16, 3) := by decide +kernel
theorem dX4_isTraceWord_42 : decode cX4_isTraceWord 42 = .ok (.iload_n 1, 1) := by decide +kernel
theorem dX4_isTraceWord_43 : decode cX4_isTraceWord 43 = .ok (.iaload, 1) := by decide +kernel
theorem dX4_isTraceWord_44 : decode cX4_isTraceWord 44 = .ok (.ishl, 1) := by decide +kernel
theorem dX4_isTraceWord_45 : decode cX4_isTraceWord 45 = .ok (.iconst 1, 1) := by decide +kernel
theorem dX4_isTraceWord_46 : decode cX4_isTraceWord 46 = .ok (.isub, 1) := by decide +kernel
theorem dX4_isTraceWord_47 : decode cX4_isTraceWord 47 = .ok (.invokevirtual 180, 3) := by decide +kernel
theorem dX4_isTraceWord_50 : decode cX4_isTraceWord 50 = .ok (.ireturn, 1) := by decide +kernel
theorem dX4_accepts_0 : decode cX4_accepts 0 = .ok (.aload_n 0, 1) := by decide +kernel
theorem dX4_accepts_1 : decode cX4_accepts 1 = .ok (.iload_n 1, 1) := by decide +kernel
theorem dX4_accepts_2 : decode cX4_accepts 2 = .ok (.aload_n 0, 1) := by decide +kernel
theorem dX4_accepts_3 : decode cX4_accepts 3 = .ok (.getfield 38, 3) := by decide +kernel
theorem dX4_accepts_6 : decode cX4_accepts 6 = .ok (.invokevirtual 155, 3) := by decide +kernel
theorem dX4_accepts_9 : decode cX4_accepts 9 = .ok (.ifCond .eq 15, 3) := by decide +kernel
theorem dX4_accepts_12 : decode cX4_accepts 12 = .ok (.aload_n 0, 1) := by decide +kernel
theorem dX4_accepts_13 : decode cX4_accepts 13 = .ok (.iload_n 1, 1) := by decide +kernel
theorem dX4_accepts_14 : decode cX4_accepts 14 = .ok (.invokevirtual 192, 3) := by decide +kernel
theorem dX4_accepts_17 : decode cX4_accepts 17 = .ok (.ifCond .eq 7, 3) := by decide +kernel
theorem dX4_accepts_20 : decode cX4_accepts 20 = .ok (.iconst 1, 1) := by decide +kernel
theorem dX4_accepts_21 : decode cX4_accepts 21 = .ok (.goto 4, 3) := by decide +kernel
theorem dX4_accepts_24 : decode cX4_accepts 24 = .ok (.iconst 0, 1) := by decide +kernel
theorem dX4_accepts_25 : decode cX4_accepts 25 = .ok (.ireturn, 1) := by decide +kernel
theorem dX4_acceptsBuffer_0 : decode cX4_acceptsBuffer 0 = .ok (.aload_n 0, 1) := by decide +kernel
theorem dX4_acceptsBuffer_1 : decode cX4_acceptsBuffer 1 = .ok (.iconst 0, 1) := by decide +kernel
theorem dX4_acceptsBuffer_2 : decode cX4_acceptsBuffer 2 = .ok (.iconst 1, 1) := by decide +kernel
theorem dX4_acceptsBuffer_3 : decode cX4_acceptsBuffer 3 = .ok (.invokevirtual 155, 3) := by decide +kernel
theorem dX4_acceptsBuffer_6 : decode cX4_acceptsBuffer 6 = .ok (.ifCond .ne 5, 3) := by decide +kernel
theorem dX4_acceptsBuffer_9 : decode cX4_acceptsBuffer 9 = .ok (.iconst 0, 1) := by decide +kernel
theorem dX4_acceptsBuffer_10 : decode cX4_acceptsBuffer 10 = .ok (.ireturn, 1) := by decide +kernel
theorem dX4_acceptsBuffer_11 : decode cX4_acceptsBuffer 11 = .ok (.iconst 0, 1) := by decide +kernel
theorem dX4_acceptsBuffer_12 : decode cX4_acceptsBuffer 12 = .ok (.istore_n 1, 1) := by decide +kernel
theorem dX4_acceptsBuffer_13 : decode cX4_acceptsBuffer 13 = .ok (.iload_n 1, 1) := by decide +kernel
theorem dX4_acceptsBuffer_14 : decode cX4_acceptsBuffer 14 = .ok (.aload_n 0, 1) := by decide +kernel
theorem dX4_acceptsBuffer_15 : decode cX4_acceptsBuffer 15 = .ok (.getfield 49, 3) := by decide +kernel
theorem dX4_acceptsBuffer_18 : decode cX4_acceptsBuffer 18 = .ok (.if_icmp .ge 21, 3) := by decide +kernel
theorem dX4_acceptsBuffer_21 : decode cX4_acceptsBuffer 21 = .ok (.aload_n 0, 1) := by decide +kernel
theorem dX4_acceptsBuffer_22 : decode cX4_acceptsBuffer 22 = .ok (.getfield 31, 3) := by decide +kernel
theorem dX4_acceptsBuffer_25 : decode cX4_acceptsBuffer 25 = .ok (.iload_n 1, 1) := by decide +kernel
theorem dX4_acceptsBuffer_26 : decode cX4_acceptsBuffer 26 = .ok (.aload_n 0, 1) := by decide +kernel
theorem dX4_acceptsBuffer_27 : decode cX4_acceptsBuffer 27 = .ok (.getfield 9, 3) := by decide +kernel
theorem dX4_acceptsBuffer_30 : decode cX4_acceptsBuffer 30 = .ok (.iload_n 1, 1) := by decide +kernel
theorem dX4_acceptsBuffer_31 : decode cX4_acceptsBuffer 31 = .ok (.iaload, 1) := by decide +kernel
theorem dX4_acceptsBuffer_32 : decode cX4_acceptsBuffer 32 = .ok (.iastore, 1) := by decide +kernel
theorem dX4_acceptsBuffer_33 : decode cX4_acceptsBuffer 33 = .ok (.iinc 1 1, 3) := by decide +kernel
theorem dX4_acceptsBuffer_36 : decode cX4_acceptsBuffer 36 = .ok (.goto (-23), 3) := by decide +kernel
theorem dX4_acceptsBuffer_39 : decode cX4_acceptsBuffer 39 = .ok (.aload_n 0, 1) := by decide +kernel
theorem dX4_acceptsBuffer_40 : decode cX4_acceptsBuffer 40 = .ok (.iconst 0, 1) := by decide +kernel
theorem dX4_acceptsBuffer_41 : decode cX4_acceptsBuffer 41 = .ok (.iconst 1, 1) := by decide +kernel
theorem dX4_acceptsBuffer_42 : decode cX4_acceptsBuffer 42 = .ok (.aload_n 0, 1) := by decide +kernel
theorem dX4_acceptsBuffer_43 : decode cX4_acceptsBuffer 43 = .ok (.getfield 49, 3) := by decide +kernel
theorem dX4_acceptsBuffer_46 : decode cX4_acceptsBuffer 46 = .ok (.ishl, 1) := by decide +kernel
theorem dX4_acceptsBuffer_47 : decode cX4_acceptsBuffer 47 = .ok (.iconst 1, 1) := by decide +kernel
theorem dX4_acceptsBuffer_48 : decode cX4_acceptsBuffer 48 = .ok (.isub, 1) := by decide +kernel
theorem dX4_acceptsBuffer_49 : decode cX4_acceptsBuffer 49 = .ok (.invokevirtual 180, 3) := by decide +kernel
theorem dX4_acceptsBuffer_52 : decode cX4_acceptsBuffer 52 = .ok (.ireturn, 1) := by decide +kernel
theorem dX4_fitness_0 : decode cX4_fitness 0 = .ok (.aload_n 0, 1) := by decide +kernel
theorem dX4_fitness_1 : decode cX4_fitness 1 = .ok (.iconst 0, 1) := by decide +kernel
theorem dX4_fitness_2 : decode cX4_fitness 2 = .ok (.iconst 1, 1) := by decide +kernel
theorem dX4_fitness_3 : decode cX4_fitness 3 = .ok (.invokevirtual 155, 3) := by decide +kernel
theorem dX4_fitness_6 : decode cX4_fitness 6 = .ok (.ifCond .ne 5, 3) := by decide +kernel
theorem dX4_fitness_9 : decode cX4_fitness 9 = .ok (.dconst 0, 1) := by decide +kernel
theorem dX4_fitness_10 : decode cX4_fitness 10 = .ok (.dreturn, 1) := by decide +kernel
theorem dX4_fitness_11 : decode cX4_fitness 11 = .ok (.iconst 0, 1) := by decide +kernel
theorem dX4_fitness_12 : decode cX4_fitness 12 = .ok (.istore_n 1, 1) := by decide +kernel
theorem dX4_fitness_13 : decode cX4_fitness 13 = .ok (.iconst 0, 1) := by decide +kernel
theorem dX4_fitness_14 : decode cX4_fitness 14 = .ok (.istore_n 2, 1) := by decide +kernel
theorem dX4_fitness_15 : decode cX4_fitness 15 = .ok (.iload_n 2, 1) := by decide +kernel
theorem dX4_fitness_16 : decode cX4_fitness 16 = .ok (.aload_n 0, 1) := by decide +kernel
theorem dX4_fitness_17 : decode cX4_fitness 17 = .ok (.getfield 38, 3) := by decide +kernel
theorem dX4_fitness_20 : decode cX4_fitness 20 = .ok (.if_icmp .ge 25, 3) := by decide +kernel
theorem dX4_fitness_23 : decode cX4_fitness 23 = .ok (.iload_n 1, 1) := by decide +kernel
theorem dX4_fitness_24 : decode cX4_fitness 24 = .ok (.aload_n 0, 1) := by decide +kernel
theorem dX4_fitness_25 : decode cX4_fitness 25 = .ok (.iload_n 2, 1) := by decide +kernel
theorem dX4_fitness_26 : decode cX4_fitness 26 = .ok (.invokevirtual 192, 3) := by decide +kernel
theorem dX4_fitness_29 : decode cX4_fitness 29 = .ok (.ifCond .eq 7, 3) := by decide +kernel
theorem dX4_fitness_32 : decode cX4_fitness 32 = .ok (.iconst 1, 1) := by decide +kernel
theorem dX4_fitness_33 : decode cX4_fitness 33 = .ok (.goto 4, 3) := by decide +kernel
theorem dX4_fitness_36 : decode cX4_fitness 36 = .ok (.iconst 0, 1) := by decide +kernel
theorem dX4_fitness_37 : decode cX4_fitness 37 = .ok (.iadd, 1) := by decide +kernel
theorem dX4_fitness_38 : decode cX4_fitness 38 = .ok (.istore_n 1, 1) := by decide +kernel
theorem dX4_fitness_39 : decode cX4_fitness 39 = .ok (.iinc 2 1, 3) := by decide +kernel
theorem dX4_fitness_42 : decode cX4_fitness 42 = .ok (.goto (-27), 3) := by decide +kernel
theorem dX4_fitness_45 : decode cX4_fitness 45 = .ok (.aload_n 0, 1) := by decide +kernel
theorem dX4_fitness_46 : decode cX4_fitness 46 = .ok (.getfield 38, 3) := by decide +kernel
theorem dX4_fitness_49 : decode cX4_fitness 49 = .ok (.ifCond .ne 7, 3) := by decide +kernel
theorem dX4_fitness_52 : decode cX4_fitness 52 = .ok (.dconst 1, 1) := by decide +kernel
theorem dX4_fitness_53 : decode cX4_fitness 53 = .ok (.goto 11, 3) := by decide +kernel
theorem dX4_fitness_56 : decode cX4_fitness 56 = .ok (.iload_n 1, 1) := by decide +kernel
theorem dX4_fitness_57 : decode cX4_fitness 57 = .ok (.i2d, 1) := by decide +kernel
theorem dX4_fitness_58 : decode cX4_fitness 58 = .ok (.aload_n 0, 1) := by decide +kernel
theorem dX4_fitness_59 : decode cX4_fitness 59 = .ok (.getfield 38, 3) := by decide +kernel
theorem dX4_fitness_62 : decode cX4_fitness 62 = .ok (.i2d, 1) := by decide +kernel
theorem dX4_fitness_63 : decode cX4_fitness 63 = .ok (.ddiv, 1) := by decide +kernel
theorem dX4_fitness_64 : decode cX4_fitness 64 = .ok (.dreturn, 1) := by decide +kernel
theorem dX4_words_0 : decode cX4_words 0 = .ok (.aload_n 0, 1) := by decide +kernel
theorem dX4_words_1 : decode cX4_words 1 = .ok (.iconst 0, 1) := by decide +kernel
theorem dX4_words_2 : decode cX4_words 2 = .ok (.iconst 1, 1) := by decide +kernel
theorem dX4_words_3 : decode cX4_words 3 = .ok (.invokevirtual 155, 3) := by decide +kernel
theorem dX4_words_6 : decode cX4_words 6 = .ok (.ifCond .ne 5, 3) := by decide +kernel
theorem dX4_words_9 : decode cX4_words 9 = .ok (.iconst 0, 1) := by decide +kernel
theorem dX4_words_10 : decode cX4_words 10 = .ok (.ireturn, 1) := by decide +kernel
theorem dX4_words_11 : decode cX4_words 11 = .ok (.iload_n 1, 1) := by decide +kernel
theorem dX4_words_12 : decode cX4_words 12 = .ok (.ifCond .lt 8, 3) := by decide +kernel
theorem dX4_words_15 : decode cX4_words 15 = .ok (.iload_n 1, 1) := by decide +kernel
theorem dX4_words_16 : decode cX4_words 16 = .ok (.iconst 3, 1) := by decide +kernel
theorem dX4_words_17 : decode cX4_words 17 = .ok (.if_icmp .le 9, 3) := by decide +kernel
theorem dX4_words_20 : decode cX4_words 20 = .ok (.aload_n 0, 1) := by decide +kernel
theorem dX4_words_21 : decode cX4_words 21 = .ok (.iconst 2, 1) := by decide +kernel
theorem dX4_words_22 : decode cX4_words 22 = .ok (.invokevirtual 45, 3) := by decide +kernel
theorem dX4_words_25 : decode cX4_words 25 = .ok (.ireturn, 1) := by decide +kernel
theorem dX4_words_26 : decode cX4_words 26 = .ok (.iconst 0, 1) := by decide +kernel
theorem dX4_words_27 : decode cX4_words 27 = .ok (.istore_n 2, 1) := by decide +kernel
theorem dX4_words_28 : decode cX4_words 28 = .ok (.iconst 0, 1) := by decide +kernel
theorem dX4_words_29 : decode cX4_words 29 = .ok (.istore_n 3, 1) := by decide +kernel
theorem dX4_words_30 : decode cX4_words 30 = .ok (.iload_n 3, 1) := by decide +kernel
theorem dX4_words_31 : decode cX4_words 31 = .ok (.iconst 1, 1) := by decide +kernel
theorem dX4_words_32 : decode cX4_words 32 = .ok (.iconst 3, 1) := by decide +kernel
theorem dX4_words_33 : decode cX4_words 33 = .ok (.iload_n 1, 1) := by decide +kernel
theorem dX4_words_34 : decode cX4_words 34 = .ok (.imul, 1) := by decide +kernel
theorem dX4_words_35 : decode cX4_words 35 = .ok (.ishl, 1) := by decide +kernel
theorem dX4_words_36 : decode cX4_words 36 = .ok (.if_icmp .ge 61, 3) := by decide +kernel
theorem dX4_words_39 : decode cX4_words 39 = .ok (.iconst 0, 1) := by decide +kernel
theorem dX4_words_40 : decode cX4_words 40 = .ok (.istore 4, 2) := by decide +kernel
theorem dX4_words_42 : decode cX4_words 42 = .ok (.iload 4, 2) := by decide +kernel
theorem dX4_words_44 : decode cX4_words 44 = .ok (.iload_n 1, 1) := by decide +kernel
theorem dX4_words_45 : decode cX4_words 45 = .ok (.if_icmp .ge 25, 3) := by decide +kernel
theorem dX4_words_48 : decode cX4_words 48 = .ok (.aload_n 0, 1) := by decide +kernel
theorem dX4_words_49 : decode cX4_words 49 = .ok (.getfield 31, 3) := by decide +kernel
theorem dX4_words_52 : decode cX4_words 52 = .ok (.iload 4, 2) := by decide +kernel
theorem dX4_words_54 : decode cX4_words 54 = .ok (.iload_n 3, 1) := by decide +kernel
theorem dX4_words_55 : decode cX4_words 55 = .ok (.iconst 3, 1) := by decide +kernel
theorem dX4_words_56 : decode cX4_words 56 = .ok (.iload 4, 2) := by decide +kernel
theorem dX4_words_58 : decode cX4_words 58 = .ok (.imul, 1) := by decide +kernel
theorem dX4_words_59 : decode cX4_words 59 = .ok (.ishr, 1) := by decide +kernel
theorem dX4_words_60 : decode cX4_words 60 = .ok (.bipush 7, 2) := by decide +kernel
theorem dX4_words_62 : decode cX4_words 62 = .ok (.iand, 1) := by decide +kernel
theorem dX4_words_63 : decode cX4_words 63 = .ok (.iastore, 1) := by decide +kernel
theorem dX4_words_64 : decode cX4_words 64 = .ok (.iinc 4 1, 3) := by decide +kernel
theorem dX4_words_67 : decode cX4_words 67 = .ok (.goto (-25), 3) := by decide +kernel
theorem dX4_words_70 : decode cX4_words 70 = .ok (.iload_n 2, 1) := by decide +kernel
theorem dX4_words_71 : decode cX4_words 71 = .ok (.aload_n 0, 1) := by decide +kernel
theorem dX4_words_72 : decode cX4_words 72 = .ok (.iconst 0, 1) := by decide +kernel
theorem dX4_words_73 : decode cX4_words 73 = .ok (.iconst 1, 1) := by decide +kernel
theorem dX4_words_74 : decode cX4_words 74 = .ok (.iload_n 1, 1) := by decide +kernel
theorem dX4_words_75 : decode cX4_words 75 = .ok (.ishl, 1) := by decide +kernel
theorem dX4_words_76 : decode cX4_words 76 = .ok (.iconst 1, 1) := by decide +kernel
theorem dX4_words_77 : decode cX4_words 77 = .ok (.isub, 1) := by decide +kernel
theorem dX4_words_78 : decode cX4_words 78 = .ok (.invokevirtual 180, 3) := by decide +kernel
theorem dX4_words_81 : decode cX4_words 81 = .ok (.ifCond .eq 7, 3) := by decide +kernel
theorem dX4_words_84 : decode cX4_words 84 = .ok (.iconst 1, 1) := by decide +kernel
theorem dX4_words_85 : decode cX4_words 85 = .ok (.goto 4, 3) := by decide +kernel
theorem dX4_words_88 : decode cX4_words 88 = .ok (.iconst 0, 1) := by decide +kernel
theorem dX4_words_89 : decode cX4_words 89 = .ok (.iadd, 1) := by decide +kernel
theorem dX4_words_90 : decode cX4_words 90 = .ok (.istore_n 2, 1) := by decide +kernel
theorem dX4_words_91 : decode cX4_words 91 = .ok (.iinc 3 1, 3) := by decide +kernel
theorem dX4_words_94 : decode cX4_words 94 = .ok (.goto (-64), 3) := by decide +kernel
theorem dX4_words_97 : decode cX4_words 97 = .ok (.iload_n 2, 1) := by decide +kernel
theorem dX4_words_98 : decode cX4_words 98 = .ok (.ireturn, 1) := by decide +kernel
theorem dX4_digest_0 : decode cX4_digest 0 = .ok (.aload_n 0, 1) := by decide +kernel
theorem dX4_digest_1 : decode cX4_digest 1 = .ok (.iconst 0, 1) := by decide +kernel
theorem dX4_digest_2 : decode cX4_digest 2 = .ok (.putfield 34, 3) := by decide +kernel
theorem dX4_digest_5 : decode cX4_digest 5 = .ok (.ldc2_w 195, 3) := by decide +kernel
theorem dX4_digest_8 : decode cX4_digest 8 = .ok (.aload_n 0, 1) := by decide +kernel
theorem dX4_digest_9 : decode cX4_digest 9 = .ok (.getfield 49, 3) := by decide +kernel
theorem dX4_digest_12 : decode cX4_digest 12 = .ok (.i2l, 1) := by decide +kernel
theorem dX4_digest_13 : decode cX4_digest 13 = .ok (.ladd, 1) := by decide +kernel
theorem dX4_digest_14 : decode cX4_digest 14 = .ok (.lstore_n 1, 1) := by decide +kernel
theorem dX4_digest_15 : decode cX4_digest 15 = .ok (.iconst 0, 1) := by decide +kernel
theorem dX4_digest_16 : decode cX4_digest 16 = .ok (.istore_n 3, 1) := by decide +kernel
theorem dX4_digest_17 : decode cX4_digest 17 = .ok (.iload_n 3, 1) := by decide +kernel
theorem dX4_digest_18 : decode cX4_digest 18 = .ok (.aload_n 0, 1) := by decide +kernel
theorem dX4_digest_19 : decode cX4_digest 19 = .ok (.getfield 49, 3) := by decide +kernel
theorem dX4_digest_22 : decode cX4_digest 22 = .ok (.if_icmp .ge 23, 3) := by decide +kernel
theorem dX4_digest_25 : decode cX4_digest 25 = .ok (.lload_n 1, 1) := by decide +kernel
theorem dX4_digest_26 : decode cX4_digest 26 = .ok (.ldc2_w 197, 3) := by decide +kernel
theorem dX4_digest_29 : decode cX4_digest 29 = .ok (.lmul, 1) := by decide +kernel
theorem dX4_digest_30 : decode cX4_digest 30 = .ok (.aload_n 0, 1) := by decide +kernel
theorem dX4_digest_31 : decode cX4_digest 31 = .ok (.getfield 9, 3) := by decide +kernel
theorem dX4_digest_34 : decode cX4_digest 34 = .ok (.iload_n 3, 1) := by decide +kernel
theorem dX4_digest_35 : decode cX4_digest 35 = .ok (.iaload, 1) := by decide +kernel
theorem dX4_digest_36 : decode cX4_digest 36 = .ok (.i2l, 1) := by decide +kernel
theorem dX4_digest_37 : decode cX4_digest 37 = .ok (.ladd, 1) := by decide +kernel
theorem dX4_digest_38 : decode cX4_digest 38 = .ok (.lstore_n 1, 1) := by decide +kernel
theorem dX4_digest_39 : decode cX4_digest 39 = .ok (.iinc 3 1, 3) := by decide +kernel
theorem dX4_digest_42 : decode cX4_digest 42 = .ok (.goto (-25), 3) := by decide +kernel
theorem dX4_digest_45 : decode cX4_digest 45 = .ok (.lload_n 1, 1) := by decide +kernel
theorem dX4_digest_46 : decode cX4_digest 46 = .ok (.ldc2_w 197, 3) := by decide +kernel
theorem dX4_digest_49 : decode cX4_digest 49 = .ok (.lmul, 1) := by decide +kernel
theorem dX4_digest_50 : decode cX4_digest 50 = .ok (.aload_n 0, 1) := by decide +kernel
theorem dX4_digest_51 : decode cX4_digest 51 = .ok (.getfield 38, 3) := by decide +kernel
theorem dX4_digest_54 : decode cX4_digest 54 = .ok (.i2l, 1) := by decide +kernel
theorem dX4_digest_55 : decode cX4_digest 55 = .ok (.ladd, 1) := by decide +kernel
theorem dX4_digest_56 : decode cX4_digest 56 = .ok (.lstore_n 1, 1) := by decide +kernel
theorem dX4_digest_57 : decode cX4_digest 57 = .ok (.iconst 0, 1) := by decide +kernel
theorem dX4_digest_58 : decode cX4_digest 58 = .ok (.istore_n 3, 1) := by decide +kernel
theorem dX4_digest_59 : decode cX4_digest 59 = .ok (.iload_n 3, 1) := by decide +kernel
theorem dX4_digest_60 : decode cX4_digest 60 = .ok (.aload_n 0, 1) := by decide +kernel
theorem dX4_digest_61 : decode cX4_digest 61 = .ok (.getfield 38, 3) := by decide +kernel
theorem dX4_digest_64 : decode cX4_digest 64 = .ok (.if_icmp .ge 75, 3) := by decide +kernel
theorem dX4_digest_67 : decode cX4_digest 67 = .ok (.lload_n 1, 1) := by decide +kernel
theorem dX4_digest_68 : decode cX4_digest 68 = .ok (.ldc2_w 197, 3) := by decide +kernel
theorem dX4_digest_71 : decode cX4_digest 71 = .ok (.lmul, 1) := by decide +kernel
theorem dX4_digest_72 : decode cX4_digest 72 = .ok (.aload_n 0, 1) := by decide +kernel
theorem dX4_digest_73 : decode cX4_digest 73 = .ok (.getfield 13, 3) := by decide +kernel
theorem dX4_digest_76 : decode cX4_digest 76 = .ok (.iload_n 3, 1) := by decide +kernel
theorem dX4_digest_77 : decode cX4_digest 77 = .ok (.iaload, 1) := by decide +kernel
theorem dX4_digest_78 : decode cX4_digest 78 = .ok (.i2l, 1) := by decide +kernel
theorem dX4_digest_79 : decode cX4_digest 79 = .ok (.ladd, 1) := by decide +kernel
theorem dX4_digest_80 : decode cX4_digest 80 = .ok (.ldc2_w 197, 3) := by decide +kernel
theorem dX4_digest_83 : decode cX4_digest 83 = .ok (.lmul, 1) := by decide +kernel
theorem dX4_digest_84 : decode cX4_digest 84 = .ok (.aload_n 0, 1) := by decide +kernel
theorem dX4_digest_85 : decode cX4_digest 85 = .ok (.getfield 16, 3) := by decide +kernel
theorem dX4_digest_88 : decode cX4_digest 88 = .ok (.iload_n 3, 1) := by decide +kernel
theorem dX4_digest_89 : decode cX4_digest 89 = .ok (.iaload, 1) := by decide +kernel
theorem dX4_digest_90 : decode cX4_digest 90 = .ok (.i2l, 1) := by decide +kernel
theorem dX4_digest_91 : decode cX4_digest 91 = .ok (.ladd, 1) := by decide +kernel
theorem dX4_digest_92 : decode cX4_digest 92 = .ok (.lstore_n 1, 1) := by decide +kernel
theorem dX4_digest_93 : decode cX4_digest 93 = .ok (.iconst 0, 1) := by decide +kernel
theorem dX4_digest_94 : decode cX4_digest 94 = .ok (.istore 4, 2) := by decide +kernel
theorem dX4_digest_96 : decode cX4_digest 96 = .ok (.iload 4, 2) := by decide +kernel
theorem dX4_digest_98 : decode cX4_digest 98 = .ok (.aload_n 0, 1) := by decide +kernel
theorem dX4_digest_99 : decode cX4_digest 99 = .ok (.getfield 16, 3) := by decide +kernel
theorem dX4_digest_102 : decode cX4_digest 102 = .ok (.iload_n 3, 1) := by decide +kernel
theorem dX4_digest_103 : decode cX4_digest 103 = .ok (.iaload, 1) := by decide +kernel
theorem dX4_digest_104 : decode cX4_digest 104 = .ok (.if_icmp .ge 29, 3) := by decide +kernel
theorem dX4_digest_107 : decode cX4_digest 107 = .ok (.lload_n 1, 1) := by decide +kernel
theorem dX4_digest_108 : decode cX4_digest 108 = .ok (.ldc2_w 197, 3) := by decide +kernel
theorem dX4_digest_111 : decode cX4_digest 111 = .ok (.lmul, 1) := by decide +kernel
theorem dX4_digest_112 : decode cX4_digest 112 = .ok (.aload_n 0, 1) := by decide +kernel
theorem dX4_digest_113 : decode cX4_digest 113 = .ok (.getfield 19, 3) := by decide +kernel
theorem dX4_digest_116 : decode cX4_digest 116 = .ok (.bipush 12, 2) := by decide +kernel
theorem dX4_digest_118 : decode cX4_digest 118 = .ok (.iload_n 3, 1) := by decide +kernel
theorem dX4_digest_119 : decode cX4_digest 119 = .ok (.imul, 1) := by decide +kernel
theorem dX4_digest_120 : decode cX4_digest 120 = .ok (.iload 4, 2) := by decide +kernel
theorem dX4_digest_122 : decode cX4_digest 122 = .ok (.iadd, 1) := by decide +kernel
theorem dX4_digest_123 : decode cX4_digest 123 = .ok (.iaload, 1) := by decide +kernel
theorem dX4_digest_124 : decode cX4_digest 124 = .ok (.i2l, 1) := by decide +kernel
theorem dX4_digest_125 : decode cX4_digest 125 = .ok (.ladd, 1) := by decide +kernel
theorem dX4_digest_126 : decode cX4_digest 126 = .ok (.lstore_n 1, 1) := by decide +kernel
theorem dX4_digest_127 : decode cX4_digest 127 = .ok (.iinc 4 1, 3) := by decide +kernel
theorem dX4_digest_130 : decode cX4_digest 130 = .ok (.goto (-34), 3) := by decide +kernel
theorem dX4_digest_133 : decode cX4_digest 133 = .ok (.iinc 3 1, 3) := by decide +kernel
theorem dX4_digest_136 : decode cX4_digest 136 = .ok (.goto (-77), 3) := by decide +kernel
theorem dX4_digest_139 : decode cX4_digest 139 = .ok (.aload_n 0, 1) := by decide +kernel
theorem dX4_digest_140 : decode cX4_digest 140 = .ok (.getfield 55, 3) := by decide +kernel
theorem dX4_digest_143 : decode cX4_digest 143 = .ok (.ifCond .ne 5, 3) := by decide +kernel
theorem dX4_digest_146 : decode cX4_digest 146 = .ok (.lload_n 1, 1) := by decide +kernel
theorem dX4_digest_147 : decode cX4_digest 147 = .ok (.lreturn, 1) := by decide +kernel
theorem dX4_digest_148 : decode cX4_digest 148 = .ok (.lload_n 1, 1) := by decide +kernel
theorem dX4_digest_149 : decode cX4_digest 149 = .ok (.ldc2_w 197, 3) := by decide +kernel
theorem dX4_digest_152 : decode cX4_digest 152 = .ok (.lmul, 1) := by decide +kernel
theorem dX4_digest_153 : decode cX4_digest 153 = .ok (.aload_n 0, 1) := by decide +kernel
theorem dX4_digest_154 : decode cX4_digest 154 = .ok (.getfield 94, 3) := by decide +kernel
theorem dX4_digest_157 : decode cX4_digest 157 = .ok (.i2l, 1) := by decide +kernel
theorem dX4_digest_158 : decode cX4_digest 158 = .ok (.ladd, 1) := by decide +kernel
theorem dX4_digest_159 : decode cX4_digest 159 = .ok (.lstore_n 1, 1) := by decide +kernel
theorem dX4_digest_160 : decode cX4_digest 160 = .ok (.iconst 0, 1) := by decide +kernel
theorem dX4_digest_161 : decode cX4_digest 161 = .ok (.istore_n 3, 1) := by decide +kernel
theorem dX4_digest_162 : decode cX4_digest 162 = .ok (.iload_n 3, 1) := by decide +kernel
theorem dX4_digest_163 : decode cX4_digest 163 = .ok (.aload_n 0, 1) := by decide +kernel
theorem dX4_digest_164 : decode cX4_digest 164 = .ok (.getfield 94, 3) := by decide +kernel
theorem dX4_digest_167 : decode cX4_digest 167 = .ok (.if_icmp .ge 46, 3) := by decide +kernel
theorem dX4_digest_170 : decode cX4_digest 170 = .ok (.lload_n 1, 1) := by decide +kernel
theorem dX4_digest_171 : decode cX4_digest 171 = .ok (.ldc2_w 197, 3) := by decide +kernel
theorem dX4_digest_174 : decode cX4_digest 174 = .ok (.lmul, 1) := by decide +kernel
theorem dX4_digest_175 : decode cX4_digest 175 = .ok (.aload_n 0, 1) := by decide +kernel
theorem dX4_digest_176 : decode cX4_digest 176 = .ok (.getfield 22, 3) := by decide +kernel
theorem dX4_digest_179 : decode cX4_digest 179 = .ok (.iload_n 3, 1) := by decide +kernel
theorem dX4_digest_180 : decode cX4_digest 180 = .ok (.iaload, 1) := by decide +kernel
theorem dX4_digest_181 : decode cX4_digest 181 = .ok (.i2l, 1) := by decide +kernel
theorem dX4_digest_182 : decode cX4_digest 182 = .ok (.ladd, 1) := by decide +kernel
theorem dX4_digest_183 : decode cX4_digest 183 = .ok (.ldc2_w 197, 3) := by decide +kernel
theorem dX4_digest_186 : decode cX4_digest 186 = .ok (.lmul, 1) := by decide +kernel
theorem dX4_digest_187 : decode cX4_digest 187 = .ok (.aload_n 0, 1) := by decide +kernel
theorem dX4_digest_188 : decode cX4_digest 188 = .ok (.getfield 28, 3) := by decide +kernel
theorem dX4_digest_191 : decode cX4_digest 191 = .ok (.iload_n 3, 1) := by decide +kernel
theorem dX4_digest_192 : decode cX4_digest 192 = .ok (.iaload, 1) := by decide +kernel
theorem dX4_digest_193 : decode cX4_digest 193 = .ok (.i2l, 1) := by decide +kernel
theorem dX4_digest_194 : decode cX4_digest 194 = .ok (.ladd, 1) := by decide +kernel
theorem dX4_digest_195 : decode cX4_digest 195 = .ok (.ldc2_w 197, 3) := by decide +kernel
theorem dX4_digest_198 : decode cX4_digest 198 = .ok (.lmul, 1) := by decide +kernel
theorem dX4_digest_199 : decode cX4_digest 199 = .ok (.aload_n 0, 1) := by decide +kernel
theorem dX4_digest_200 : decode cX4_digest 200 = .ok (.iload_n 3, 1) := by decide +kernel
theorem dX4_digest_201 : decode cX4_digest 201 = .ok (.invokevirtual 158, 3) := by decide +kernel
theorem dX4_digest_204 : decode cX4_digest 204 = .ok (.i2l, 1) := by decide +kernel
theorem dX4_digest_205 : decode cX4_digest 205 = .ok (.ladd, 1) := by decide +kernel
theorem dX4_digest_206 : decode cX4_digest 206 = .ok (.lstore_n 1, 1) := by decide +kernel
theorem dX4_digest_207 : decode cX4_digest 207 = .ok (.iinc 3 1, 3) := by decide +kernel
theorem dX4_digest_210 : decode cX4_digest 210 = .ok (.goto (-48), 3) := by decide +kernel
theorem dX4_digest_213 : decode cX4_digest 213 = .ok (.lload_n 1, 1) := by decide +kernel
theorem dX4_digest_214 : decode cX4_digest 214 = .ok (.lreturn, 1) := by decide +kernel
end
section
theorem dL_event_0 : decode cL_event 0 = .ok (.aload_n 2, 1) := by decide +kernel
theorem dL_event_1 : decode cL_event 1 = .ok (.iconst 0, 1) := by decide +kernel
theorem dL_event_2 : decode cL_event 2 = .ok (.aload_n 0, 1) := by decide +kernel
theorem dL_event_3 : decode cL_event 3 = .ok (.iload_n 1, 1) := by decide +kernel
theorem dL_event_4 : decode cL_event 4 = .ok (.invokevirtual 7, 3) := by decide +kernel
theorem dL_event_7 : decode cL_event 7 = .ok (.i2l, 1) := by decide +kernel
theorem dL_event_8 : decode cL_event 8 = .ok (.lastore, 1) := by decide +kernel
theorem dL_event_9 : decode cL_event 9 = .ok (.goto 9, 3) := by decide +kernel
theorem dL_event_12 : decode cL_event 12 = .ok (.astore_n 3, 1) := by decide +kernel
theorem dL_event_13 : decode cL_event 13 = .ok (.iconst 1, 1) := by decide +kernel
theorem dL_event_14 : decode cL_event 14 = .ok (.ireturn, 1) := by decide +kernel
theorem dL_event_15 : decode cL_event 15 = .ok (.astore_n 3, 1) := by decide +kernel
theorem dL_event_16 : decode cL_event 16 = .ok (.iconst 2, 1) := by decide +kernel
theorem dL_event_17 : decode cL_event 17 = .ok (.ireturn, 1) := by decide +kernel
theorem dL_event_18 : decode cL_event 18 = .ok (.iconst 0, 1) := by decide +kernel
theorem dL_event_19 : decode cL_event 19 = .ok (.ireturn, 1) := by decide +kernel
theorem dL_endTrace_0 : decode cL_endTrace 0 = .ok (.aload_n 2, 1) := by decide +kernel
theorem dL_endTrace_1 : decode cL_endTrace 1 = .ok (.iconst 0, 1) := by decide +kernel
theorem dL_endTrace_2 : decode cL_endTrace 2 = .ok (.aload_n 0, 1) := by decide +kernel
theorem dL_endTrace_3 : decode cL_endTrace 3 = .ok (.iload_n 1, 1) := by decide +kernel
theorem dL_endTrace_4 : decode cL_endTrace 4 = .ok (.invokevirtual 17, 3) := by decide +kernel
theorem dL_endTrace_7 : decode cL_endTrace 7 = .ok (.i2l, 1) := by decide +kernel
theorem dL_endTrace_8 : decode cL_endTrace 8 = .ok (.lastore, 1) := by decide +kernel
theorem dL_endTrace_9 : decode cL_endTrace 9 = .ok (.goto 9, 3) := by decide +kernel
theorem dL_endTrace_12 : decode cL_endTrace 12 = .ok (.astore_n 3, 1) := by decide +kernel
theorem dL_endTrace_13 : decode cL_endTrace 13 = .ok (.iconst 1, 1) := by decide +kernel
theorem dL_endTrace_14 : decode cL_endTrace 14 = .ok (.ireturn, 1) := by decide +kernel
theorem dL_endTrace_15 : decode cL_endTrace 15 = .ok (.astore_n 3, 1) := by decide +kernel
theorem dL_endTrace_16 : decode cL_endTrace 16 = .ok (.iconst 2, 1) := by decide +kernel
theorem dL_endTrace_17 : decode cL_endTrace 17 = .ok (.ireturn, 1) := by decide +kernel
theorem dL_endTrace_18 : decode cL_endTrace 18 = .ok (.iconst 0, 1) := by decide +kernel
theorem dL_endTrace_19 : decode cL_endTrace 19 = .ok (.ireturn, 1) := by decide +kernel
theorem dL_setTimes_0 : decode cL_setTimes 0 = .ok (.aload_n 3, 1) := by decide +kernel
theorem dL_setTimes_1 : decode cL_setTimes 1 = .ok (.iconst 0, 1) := by decide +kernel
theorem dL_setTimes_2 : decode cL_setTimes 2 = .ok (.aload_n 0, 1) := by decide +kernel
theorem dL_setTimes_3 : decode cL_setTimes 3 = .ok (.iload_n 1, 1) := by decide +kernel
theorem dL_setTimes_4 : decode cL_setTimes 4 = .ok (.iload_n 2, 1) := by decide +kernel
theorem dL_setTimes_5 : decode cL_setTimes 5 = .ok (.invokevirtual 22, 3) := by decide +kernel
theorem dL_setTimes_8 : decode cL_setTimes 8 = .ok (.i2l, 1) := by decide +kernel
theorem dL_setTimes_9 : decode cL_setTimes 9 = .ok (.lastore, 1) := by decide +kernel
theorem dL_setTimes_10 : decode cL_setTimes 10 = .ok (.goto 11, 3) := by decide +kernel
theorem dL_setTimes_13 : decode cL_setTimes 13 = .ok (.astore 4, 2) := by decide +kernel
theorem dL_setTimes_15 : decode cL_setTimes 15 = .ok (.iconst 1, 1) := by decide +kernel
theorem dL_setTimes_16 : decode cL_setTimes 16 = .ok (.ireturn, 1) := by decide +kernel
theorem dL_setTimes_17 : decode cL_setTimes 17 = .ok (.astore 4, 2) := by decide +kernel
theorem dL_setTimes_19 : decode cL_setTimes 19 = .ok (.iconst 2, 1) := by decide +kernel
theorem dL_setTimes_20 : decode cL_setTimes 20 = .ok (.ireturn, 1) := by decide +kernel
theorem dL_setTimes_21 : decode cL_setTimes 21 = .ok (.iconst 0, 1) := by decide +kernel
theorem dL_setTimes_22 : decode cL_setTimes 22 = .ok (.ireturn, 1) := by decide +kernel
theorem dL_dropTrace_0 : decode cL_dropTrace 0 = .ok (.aload_n 1, 1) := by decide +kernel
theorem dL_dropTrace_1 : decode cL_dropTrace 1 = .ok (.iconst 0, 1) := by decide +kernel
theorem dL_dropTrace_2 : decode cL_dropTrace 2 = .ok (.aload_n 0, 1) := by decide +kernel
theorem dL_dropTrace_3 : decode cL_dropTrace 3 = .ok (.invokevirtual 26, 3) := by decide +kernel
theorem dL_dropTrace_6 : decode cL_dropTrace 6 = .ok (.i2l, 1) := by decide +kernel
theorem dL_dropTrace_7 : decode cL_dropTrace 7 = .ok (.lastore, 1) := by decide +kernel
theorem dL_dropTrace_8 : decode cL_dropTrace 8 = .ok (.goto 6, 3) := by decide +kernel
theorem dL_dropTrace_11 : decode cL_dropTrace 11 = .ok (.astore_n 2, 1) := by decide +kernel
theorem dL_dropTrace_12 : decode cL_dropTrace 12 = .ok (.iconst 1, 1) := by decide +kernel
theorem dL_dropTrace_13 : decode cL_dropTrace 13 = .ok (.ireturn, 1) := by decide +kernel
theorem dL_dropTrace_14 : decode cL_dropTrace 14 = .ok (.iconst 0, 1) := by decide +kernel
theorem dL_dropTrace_15 : decode cL_dropTrace 15 = .ok (.ireturn, 1) := by decide +kernel
theorem dL_length_0 : decode cL_length 0 = .ok (.aload_n 2, 1) := by decide +kernel
theorem dL_length_1 : decode cL_length 1 = .ok (.iconst 0, 1) := by decide +kernel
theorem dL_length_2 : decode cL_length 2 = .ok (.aload_n 0, 1) := by decide +kernel
theorem dL_length_3 : decode cL_length 3 = .ok (.iload_n 1, 1) := by decide +kernel
theorem dL_length_4 : decode cL_length 4 = .ok (.invokevirtual 30, 3) := by decide +kernel
theorem dL_length_7 : decode cL_length 7 = .ok (.i2l, 1) := by decide +kernel
theorem dL_length_8 : decode cL_length 8 = .ok (.lastore, 1) := by decide +kernel
theorem dL_length_9 : decode cL_length 9 = .ok (.goto 6, 3) := by decide +kernel
theorem dL_length_12 : decode cL_length 12 = .ok (.astore_n 3, 1) := by decide +kernel
theorem dL_length_13 : decode cL_length 13 = .ok (.iconst 1, 1) := by decide +kernel
theorem dL_length_14 : decode cL_length 14 = .ok (.ireturn, 1) := by decide +kernel
theorem dL_length_15 : decode cL_length 15 = .ok (.iconst 0, 1) := by decide +kernel
theorem dL_length_16 : decode cL_length 16 = .ok (.ireturn, 1) := by decide +kernel
theorem dL_labelAt_0 : decode cL_labelAt 0 = .ok (.aload_n 3, 1) := by decide +kernel
theorem dL_labelAt_1 : decode cL_labelAt 1 = .ok (.iconst 0, 1) := by decide +kernel
theorem dL_labelAt_2 : decode cL_labelAt 2 = .ok (.aload_n 0, 1) := by decide +kernel
theorem dL_labelAt_3 : decode cL_labelAt 3 = .ok (.iload_n 1, 1) := by decide +kernel
theorem dL_labelAt_4 : decode cL_labelAt 4 = .ok (.iload_n 2, 1) := by decide +kernel
theorem dL_labelAt_5 : decode cL_labelAt 5 = .ok (.invokevirtual 33, 3) := by decide +kernel
theorem dL_labelAt_8 : decode cL_labelAt 8 = .ok (.i2l, 1) := by decide +kernel
theorem dL_labelAt_9 : decode cL_labelAt 9 = .ok (.lastore, 1) := by decide +kernel
theorem dL_labelAt_10 : decode cL_labelAt 10 = .ok (.goto 7, 3) := by decide +kernel
theorem dL_labelAt_13 : decode cL_labelAt 13 = .ok (.astore 4, 2) := by decide +kernel
theorem dL_labelAt_15 : decode cL_labelAt 15 = .ok (.iconst 1, 1) := by decide +kernel
theorem dL_labelAt_16 : decode cL_labelAt 16 = .ok (.ireturn, 1) := by decide +kernel
theorem dL_labelAt_17 : decode cL_labelAt 17 = .ok (.iconst 0, 1) := by decide +kernel
theorem dL_labelAt_18 : decode cL_labelAt 18 = .ok (.ireturn, 1) := by decide +kernel
theorem dL_follows_0 : decode cL_follows 0 = .ok (.aload_n 3, 1) := by decide +kernel
theorem dL_follows_1 : decode cL_follows 1 = .ok (.iconst 0, 1) := by decide +kernel
theorem dL_follows_2 : decode cL_follows 2 = .ok (.aload_n 0, 1) := by decide +kernel
theorem dL_follows_3 : decode cL_follows 3 = .ok (.iload_n 1, 1) := by decide +kernel
theorem dL_follows_4 : decode cL_follows 4 = .ok (.iload_n 2, 1) := by decide +kernel
theorem dL_follows_5 : decode cL_follows 5 = .ok (.invokevirtual 36, 3) := by decide +kernel
theorem dL_follows_8 : decode cL_follows 8 = .ok (.i2l, 1) := by decide +kernel
theorem dL_follows_9 : decode cL_follows 9 = .ok (.lastore, 1) := by decide +kernel
theorem dL_follows_10 : decode cL_follows 10 = .ok (.goto 7, 3) := by decide +kernel
theorem dL_follows_13 : decode cL_follows 13 = .ok (.astore 4, 2) := by decide +kernel
theorem dL_follows_15 : decode cL_follows 15 = .ok (.iconst 1, 1) := by decide +kernel
theorem dL_follows_16 : decode cL_follows 16 = .ok (.ireturn, 1) := by decide +kernel
theorem dL_follows_17 : decode cL_follows 17 = .ok (.iconst 0, 1) := by decide +kernel
theorem dL_follows_18 : decode cL_follows 18 = .ok (.ireturn, 1) := by decide +kernel
theorem dL_relation_0 : decode cL_relation 0 = .ok (.aload_n 3, 1) := by decide +kernel
theorem dL_relation_1 : decode cL_relation 1 = .ok (.iconst 0, 1) := by decide +kernel
theorem dL_relation_2 : decode cL_relation 2 = .ok (.aload_n 0, 1) := by decide +kernel
theorem dL_relation_3 : decode cL_relation 3 = .ok (.iload_n 1, 1) := by decide +kernel
theorem dL_relation_4 : decode cL_relation 4 = .ok (.iload_n 2, 1) := by decide +kernel
theorem dL_relation_5 : decode cL_relation 5 = .ok (.invokevirtual 39, 3) := by decide +kernel
theorem dL_relation_8 : decode cL_relation 8 = .ok (.i2l, 1) := by decide +kernel
theorem dL_relation_9 : decode cL_relation 9 = .ok (.lastore, 1) := by decide +kernel
theorem dL_relation_10 : decode cL_relation 10 = .ok (.goto 7, 3) := by decide +kernel
theorem dL_relation_13 : decode cL_relation 13 = .ok (.astore 4, 2) := by decide +kernel
theorem dL_relation_15 : decode cL_relation 15 = .ok (.iconst 1, 1) := by decide +kernel
theorem dL_relation_16 : decode cL_relation 16 = .ok (.ireturn, 1) := by decide +kernel
theorem dL_relation_17 : decode cL_relation 17 = .ok (.iconst 0, 1) := by decide +kernel
theorem dL_relation_18 : decode cL_relation 18 = .ok (.ireturn, 1) := by decide +kernel
theorem dL_leads_0 : decode cL_leads 0 = .ok (.aload_n 3, 1) := by decide +kernel
theorem dL_leads_1 : decode cL_leads 1 = .ok (.iconst 0, 1) := by decide +kernel
theorem dL_leads_2 : decode cL_leads 2 = .ok (.aload_n 0, 1) := by decide +kernel
theorem dL_leads_3 : decode cL_leads 3 = .ok (.iload_n 1, 1) := by decide +kernel
theorem dL_leads_4 : decode cL_leads 4 = .ok (.iload_n 2, 1) := by decide +kernel
theorem dL_leads_5 : decode cL_leads 5 = .ok (.invokevirtual 42, 3) := by decide +kernel
theorem dL_leads_8 : decode cL_leads 8 = .ok (.ifCond .eq 7, 3) := by decide +kernel
theorem dL_leads_11 : decode cL_leads 11 = .ok (.lconst 1, 1) := by decide +kernel
theorem dL_leads_12 : decode cL_leads 12 = .ok (.goto 4, 3) := by decide +kernel
theorem dL_leads_15 : decode cL_leads 15 = .ok (.lconst 0, 1) := by decide +kernel
theorem dL_leads_16 : decode cL_leads 16 = .ok (.lastore, 1) := by decide +kernel
theorem dL_leads_17 : decode cL_leads 17 = .ok (.goto 7, 3) := by decide +kernel
theorem dL_leads_20 : decode cL_leads 20 = .ok (.astore 4, 2) := by decide +kernel
theorem dL_leads_22 : decode cL_leads 22 = .ok (.iconst 1, 1) := by decide +kernel
theorem dL_leads_23 : decode cL_leads 23 = .ok (.ireturn, 1) := by decide +kernel
theorem dL_leads_24 : decode cL_leads 24 = .ok (.iconst 0, 1) := by decide +kernel
theorem dL_leads_25 : decode cL_leads 25 = .ok (.ireturn, 1) := by decide +kernel
theorem dL_kind_0 : decode cL_kind 0 = .ok (.aload_n 2, 1) := by decide +kernel
theorem dL_kind_1 : decode cL_kind 1 = .ok (.iconst 0, 1) := by decide +kernel
theorem dL_kind_2 : decode cL_kind 2 = .ok (.aload_n 0, 1) := by decide +kernel
theorem dL_kind_3 : decode cL_kind 3 = .ok (.iload_n 1, 1) := by decide +kernel
theorem dL_kind_4 : decode cL_kind 4 = .ok (.invokevirtual 46, 3) := by decide +kernel
theorem dL_kind_7 : decode cL_kind 7 = .ok (.i2l, 1) := by decide +kernel
theorem dL_kind_8 : decode cL_kind 8 = .ok (.lastore, 1) := by decide +kernel
theorem dL_kind_9 : decode cL_kind 9 = .ok (.goto 9, 3) := by decide +kernel
theorem dL_kind_12 : decode cL_kind 12 = .ok (.astore_n 3, 1) := by decide +kernel
theorem dL_kind_13 : decode cL_kind 13 = .ok (.iconst 1, 1) := by decide +kernel
theorem dL_kind_14 : decode cL_kind 14 = .ok (.ireturn, 1) := by decide +kernel
theorem dL_kind_15 : decode cL_kind 15 = .ok (.astore_n 3, 1) := by decide +kernel
theorem dL_kind_16 : decode cL_kind 16 = .ok (.iconst 2, 1) := by decide +kernel
theorem dL_kind_17 : decode cL_kind 17 = .ok (.ireturn, 1) := by decide +kernel
theorem dL_kind_18 : decode cL_kind 18 = .ok (.iconst 0, 1) := by decide +kernel
theorem dL_kind_19 : decode cL_kind 19 = .ok (.ireturn, 1) := by decide +kernel
theorem dL_labelsOf_0 : decode cL_labelsOf 0 = .ok (.aload_n 2, 1) := by decide +kernel
theorem dL_labelsOf_1 : decode cL_labelsOf 1 = .ok (.iconst 0, 1) := by decide +kernel
theorem dL_labelsOf_2 : decode cL_labelsOf 2 = .ok (.aload_n 0, 1) := by decide +kernel
theorem dL_labelsOf_3 : decode cL_labelsOf 3 = .ok (.iload_n 1, 1) := by decide +kernel
theorem dL_labelsOf_4 : decode cL_labelsOf 4 = .ok (.invokevirtual 49, 3) := by decide +kernel
theorem dL_labelsOf_7 : decode cL_labelsOf 7 = .ok (.i2l, 1) := by decide +kernel
theorem dL_labelsOf_8 : decode cL_labelsOf 8 = .ok (.lastore, 1) := by decide +kernel
theorem dL_labelsOf_9 : decode cL_labelsOf 9 = .ok (.goto 9, 3) := by decide +kernel
theorem dL_labelsOf_12 : decode cL_labelsOf 12 = .ok (.astore_n 3, 1) := by decide +kernel
theorem dL_labelsOf_13 : decode cL_labelsOf 13 = .ok (.iconst 1, 1) := by decide +kernel
theorem dL_labelsOf_14 : decode cL_labelsOf 14 = .ok (.ireturn, 1) := by decide +kernel
theorem dL_labelsOf_15 : decode cL_labelsOf 15 = .ok (.astore_n 3, 1) := by decide +kernel
theorem dL_labelsOf_16 : decode cL_labelsOf 16 = .ok (.iconst 2, 1) := by decide +kernel
theorem dL_labelsOf_17 : decode cL_labelsOf 17 = .ok (.ireturn, 1) := by decide +kernel
theorem dL_labelsOf_18 : decode cL_labelsOf 18 = .ok (.iconst 0, 1) := by decide +kernel
theorem dL_labelsOf_19 : decode cL_labelsOf 19 = .ok (.ireturn, 1) := by decide +kernel
theorem dL_parent_0 : decode cL_parent 0 = .ok (.aload_n 2, 1) := by decide +kernel
theorem dL_parent_1 : decode cL_parent 1 = .ok (.iconst 0, 1) := by decide +kernel
theorem dL_parent_2 : decode cL_parent 2 = .ok (.aload_n 0, 1) := by decide +kernel
theorem dL_parent_3 : decode cL_parent 3 = .ok (.iload_n 1, 1) := by decide +kernel
theorem dL_parent_4 : decode cL_parent 4 = .ok (.invokevirtual 52, 3) := by decide +kernel
theorem dL_parent_7 : decode cL_parent 7 = .ok (.i2l, 1) := by decide +kernel
theorem dL_parent_8 : decode cL_parent 8 = .ok (.lastore, 1) := by decide +kernel
theorem dL_parent_9 : decode cL_parent 9 = .ok (.goto 9, 3) := by decide +kernel
theorem dL_parent_12 : decode cL_parent 12 = .ok (.astore_n 3, 1) := by decide +kernel
theorem dL_parent_13 : decode cL_parent 13 = .ok (.iconst 1, 1) := by decide +kernel
theorem dL_parent_14 : decode cL_parent 14 = .ok (.ireturn, 1) := by decide +kernel
theorem dL_parent_15 : decode cL_parent 15 = .ok (.astore_n 3, 1) := by decide +kernel
theorem dL_parent_16 : decode cL_parent 16 = .ok (.iconst 2, 1) := by decide +kernel
theorem dL_parent_17 : decode cL_parent 17 = .ok (.ireturn, 1) := by decide +kernel
theorem dL_parent_18 : decode cL_parent 18 = .ok (.iconst 0, 1) := by decide +kernel
theorem dL_parent_19 : decode cL_parent 19 = .ok (.ireturn, 1) := by decide +kernel
theorem dL_children_0 : decode cL_children 0 = .ok (.aload_n 2, 1) := by decide +kernel
theorem dL_children_1 : decode cL_children 1 = .ok (.iconst 0, 1) := by decide +kernel
theorem dL_children_2 : decode cL_children 2 = .ok (.aload_n 0, 1) := by decide +kernel
theorem dL_children_3 : decode cL_children 3 = .ok (.iload_n 1, 1) := by decide +kernel
theorem dL_children_4 : decode cL_children 4 = .ok (.invokevirtual 55, 3) := by decide +kernel
theorem dL_children_7 : decode cL_children 7 = .ok (.i2l, 1) := by decide +kernel
theorem dL_children_8 : decode cL_children 8 = .ok (.lastore, 1) := by decide +kernel
theorem dL_children_9 : decode cL_children 9 = .ok (.goto 9, 3) := by decide +kernel
theorem dL_children_12 : decode cL_children 12 = .ok (.astore_n 3, 1) := by decide +kernel
theorem dL_children_13 : decode cL_children 13 = .ok (.iconst 1, 1) := by decide +kernel
theorem dL_children_14 : decode cL_children 14 = .ok (.ireturn, 1) := by decide +kernel
theorem dL_children_15 : decode cL_children 15 = .ok (.astore_n 3, 1) := by decide +kernel
theorem dL_children_16 : decode cL_children 16 = .ok (.iconst 2, 1) := by decide +kernel
theorem dL_children_17 : decode cL_children 17 = .ok (.ireturn, 1) := by decide +kernel
theorem dL_children_18 : decode cL_children 18 = .ok (.iconst 0, 1) := by decide +kernel
theorem dL_children_19 : decode cL_children 19 = .ok (.ireturn, 1) := by decide +kernel
theorem dL_child_0 : decode cL_child 0 = .ok (.aload_n 3, 1) := by decide +kernel
theorem dL_child_1 : decode cL_child 1 = .ok (.iconst 0, 1) := by decide +kernel
theorem dL_child_2 : decode cL_child 2 = .ok (.aload_n 0, 1) := by decide +kernel
theorem dL_child_3 : decode cL_child 3 = .ok (.iload_n 1, 1) := by decide +kernel
theorem dL_child_4 : decode cL_child 4 = .ok (.iload_n 2, 1) := by decide +kernel
theorem dL_child_5 : decode cL_child 5 = .ok (.invokevirtual 58, 3) := by decide +kernel
theorem dL_child_8 : decode cL_child 8 = .ok (.i2l, 1) := by decide +kernel
theorem dL_child_9 : decode cL_child 9 = .ok (.lastore, 1) := by decide +kernel
theorem dL_child_10 : decode cL_child 10 = .ok (.goto 11, 3) := by decide +kernel
theorem dL_child_13 : decode cL_child 13 = .ok (.astore 4, 2) := by decide +kernel
theorem dL_child_15 : decode cL_child 15 = .ok (.iconst 1, 1) := by decide +kernel
theorem dL_child_16 : decode cL_child 16 = .ok (.ireturn, 1) := by decide +kernel
theorem dL_child_17 : decode cL_child 17 = .ok (.astore 4, 2) := by decide +kernel
theorem dL_child_19 : decode cL_child 19 = .ok (.iconst 2, 1) := by decide +kernel
theorem dL_child_20 : decode cL_child 20 = .ok (.ireturn, 1) := by decide +kernel
theorem dL_child_21 : decode cL_child 21 = .ok (.iconst 0, 1) := by decide +kernel
theorem dL_child_22 : decode cL_child 22 = .ok (.ireturn, 1) := by decide +kernel
theorem dL_shortest_0 : decode cL_shortest 0 = .ok (.aload_n 2, 1) := by decide +kernel
theorem dL_shortest_1 : decode cL_shortest 1 = .ok (.iconst 0, 1) := by decide +kernel
theorem dL_shortest_2 : decode cL_shortest 2 = .ok (.aload_n 0, 1) := by decide +kernel
theorem dL_shortest_3 : decode cL_shortest 3 = .ok (.iload_n 1, 1) := by decide +kernel
theorem dL_shortest_4 : decode cL_shortest 4 = .ok (.invokevirtual 61, 3) := by decide +kernel
theorem dL_shortest_7 : decode cL_shortest 7 = .ok (.i2l, 1) := by decide +kernel
theorem dL_shortest_8 : decode cL_shortest 8 = .ok (.lastore, 1) := by decide +kernel
theorem dL_shortest_9 : decode cL_shortest 9 = .ok (.goto 9, 3) := by decide +kernel
theorem dL_shortest_12 : decode cL_shortest 12 = .ok (.astore_n 3, 1) := by decide +kernel
theorem dL_shortest_13 : decode cL_shortest 13 = .ok (.iconst 1, 1) := by decide +kernel
theorem dL_shortest_14 : decode cL_shortest 14 = .ok (.ireturn, 1) := by decide +kernel
theorem dL_shortest_15 : decode cL_shortest 15 = .ok (.astore_n 3, 1) := by decide +kernel
theorem dL_shortest_16 : decode cL_shortest 16 = .ok (.iconst 2, 1) := by decide +kernel
theorem dL_shortest_17 : decode cL_shortest 17 = .ok (.ireturn, 1) := by decide +kernel
theorem dL_shortest_18 : decode cL_shortest 18 = .ok (.iconst 0, 1) := by decide +kernel
theorem dL_shortest_19 : decode cL_shortest 19 = .ok (.ireturn, 1) := by decide +kernel
theorem dL_height_0 : decode cL_height 0 = .ok (.aload_n 1, 1) := by decide +kernel
theorem dL_height_1 : decode cL_height 1 = .ok (.iconst 0, 1) := by decide +kernel
theorem dL_height_2 : decode cL_height 2 = .ok (.aload_n 0, 1) := by decide +kernel
theorem dL_height_3 : decode cL_height 3 = .ok (.invokevirtual 64, 3) := by decide +kernel
theorem dL_height_6 : decode cL_height 6 = .ok (.i2l, 1) := by decide +kernel
theorem dL_height_7 : decode cL_height 7 = .ok (.lastore, 1) := by decide +kernel
theorem dL_height_8 : decode cL_height 8 = .ok (.goto 6, 3) := by decide +kernel
theorem dL_height_11 : decode cL_height 11 = .ok (.astore_n 2, 1) := by decide +kernel
theorem dL_height_12 : decode cL_height 12 = .ok (.iconst 1, 1) := by decide +kernel
theorem dL_height_13 : decode cL_height 13 = .ok (.ireturn, 1) := by decide +kernel
theorem dL_height_14 : decode cL_height 14 = .ok (.iconst 0, 1) := by decide +kernel
theorem dL_height_15 : decode cL_height 15 = .ok (.ireturn, 1) := by decide +kernel
theorem dL_accepts_0 : decode cL_accepts 0 = .ok (.aload_n 2, 1) := by decide +kernel
theorem dL_accepts_1 : decode cL_accepts 1 = .ok (.iconst 0, 1) := by decide +kernel
theorem dL_accepts_2 : decode cL_accepts 2 = .ok (.aload_n 0, 1) := by decide +kernel
theorem dL_accepts_3 : decode cL_accepts 3 = .ok (.iload_n 1, 1) := by decide +kernel
theorem dL_accepts_4 : decode cL_accepts 4 = .ok (.invokevirtual 67, 3) := by decide +kernel
theorem dL_accepts_7 : decode cL_accepts 7 = .ok (.ifCond .eq 7, 3) := by decide +kernel
theorem dL_accepts_10 : decode cL_accepts 10 = .ok (.lconst 1, 1) := by decide +kernel
theorem dL_accepts_11 : decode cL_accepts 11 = .ok (.goto 4, 3) := by decide +kernel
theorem dL_accepts_14 : decode cL_accepts 14 = .ok (.lconst 0, 1) := by decide +kernel
theorem dL_accepts_15 : decode cL_accepts 15 = .ok (.lastore, 1) := by decide +kernel
theorem dL_accepts_16 : decode cL_accepts 16 = .ok (.goto 9, 3) := by decide +kernel
theorem dL_accepts_19 : decode cL_accepts 19 = .ok (.astore_n 3, 1) := by decide +kernel
theorem dL_accepts_20 : decode cL_accepts 20 = .ok (.iconst 1, 1) := by decide +kernel
theorem dL_accepts_21 : decode cL_accepts 21 = .ok (.ireturn, 1) := by decide +kernel
theorem dL_accepts_22 : decode cL_accepts 22 = .ok (.astore_n 3, 1) := by decide +kernel
theorem dL_accepts_23 : decode cL_accepts 23 = .ok (.iconst 2, 1) := by decide +kernel
theorem dL_accepts_24 : decode cL_accepts 24 = .ok (.ireturn, 1) := by decide +kernel
theorem dL_accepts_25 : decode cL_accepts 25 = .ok (.iconst 0, 1) := by decide +kernel
theorem dL_accepts_26 : decode cL_accepts 26 = .ok (.ireturn, 1) := by decide +kernel
theorem dL_acceptsBuffer_0 : decode cL_acceptsBuffer 0 = .ok (.aload_n 1, 1) := by decide +kernel
theorem dL_acceptsBuffer_1 : decode cL_acceptsBuffer 1 = .ok (.iconst 0, 1) := by decide +kernel
theorem dL_acceptsBuffer_2 : decode cL_acceptsBuffer 2 = .ok (.aload_n 0, 1) := by decide +kernel
theorem dL_acceptsBuffer_3 : decode cL_acceptsBuffer 3 = .ok (.invokevirtual 71, 3) := by decide +kernel
theorem dL_acceptsBuffer_6 : decode cL_acceptsBuffer 6 = .ok (.ifCond .eq 7, 3) := by decide +kernel
theorem dL_acceptsBuffer_9 : decode cL_acceptsBuffer 9 = .ok (.lconst 1, 1) := by decide +kernel
theorem dL_acceptsBuffer_10 : decode cL_acceptsBuffer 10 = .ok (.goto 4, 3) := by decide +kernel
theorem dL_acceptsBuffer_13 : decode cL_acceptsBuffer 13 = .ok (.lconst 0, 1) := by decide +kernel
theorem dL_acceptsBuffer_14 : decode cL_acceptsBuffer 14 = .ok (.lastore, 1) := by decide +kernel
theorem dL_acceptsBuffer_15 : decode cL_acceptsBuffer 15 = .ok (.goto 6, 3) := by decide +kernel
theorem dL_acceptsBuffer_18 : decode cL_acceptsBuffer 18 = .ok (.astore_n 2, 1) := by decide +kernel
theorem dL_acceptsBuffer_19 : decode cL_acceptsBuffer 19 = .ok (.iconst 1, 1) := by decide +kernel
theorem dL_acceptsBuffer_20 : decode cL_acceptsBuffer 20 = .ok (.ireturn, 1) := by decide +kernel
theorem dL_acceptsBuffer_21 : decode cL_acceptsBuffer 21 = .ok (.iconst 0, 1) := by decide +kernel
theorem dL_acceptsBuffer_22 : decode cL_acceptsBuffer 22 = .ok (.ireturn, 1) := by decide +kernel
theorem dL_fitness_0 : decode cL_fitness 0 = .ok (.aload_n 1, 1) := by decide +kernel
theorem dL_fitness_1 : decode cL_fitness 1 = .ok (.iconst 0, 1) := by decide +kernel
theorem dL_fitness_2 : decode cL_fitness 2 = .ok (.aload_n 0, 1) := by decide +kernel
theorem dL_fitness_3 : decode cL_fitness 3 = .ok (.invokevirtual 75, 3) := by decide +kernel
theorem dL_fitness_6 : decode cL_fitness 6 = .ok (.dastore, 1) := by decide +kernel
theorem dL_fitness_7 : decode cL_fitness 7 = .ok (.goto 6, 3) := by decide +kernel
theorem dL_fitness_10 : decode cL_fitness 10 = .ok (.astore_n 2, 1) := by decide +kernel
theorem dL_fitness_11 : decode cL_fitness 11 = .ok (.iconst 1, 1) := by decide +kernel
theorem dL_fitness_12 : decode cL_fitness 12 = .ok (.ireturn, 1) := by decide +kernel
theorem dL_fitness_13 : decode cL_fitness 13 = .ok (.iconst 0, 1) := by decide +kernel
theorem dL_fitness_14 : decode cL_fitness 14 = .ok (.ireturn, 1) := by decide +kernel
theorem dL_words_0 : decode cL_words 0 = .ok (.aload_n 2, 1) := by decide +kernel
theorem dL_words_1 : decode cL_words 1 = .ok (.iconst 0, 1) := by decide +kernel
theorem dL_words_2 : decode cL_words 2 = .ok (.aload_n 0, 1) := by decide +kernel
theorem dL_words_3 : decode cL_words 3 = .ok (.iload_n 1, 1) := by decide +kernel
theorem dL_words_4 : decode cL_words 4 = .ok (.invokevirtual 79, 3) := by decide +kernel
theorem dL_words_7 : decode cL_words 7 = .ok (.i2l, 1) := by decide +kernel
theorem dL_words_8 : decode cL_words 8 = .ok (.lastore, 1) := by decide +kernel
theorem dL_words_9 : decode cL_words 9 = .ok (.goto 9, 3) := by decide +kernel
theorem dL_words_12 : decode cL_words 12 = .ok (.astore_n 3, 1) := by decide +kernel
theorem dL_words_13 : decode cL_words 13 = .ok (.iconst 1, 1) := by decide +kernel
theorem dL_words_14 : decode cL_words 14 = .ok (.ireturn, 1) := by decide +kernel
theorem dL_words_15 : decode cL_words 15 = .ok (.astore_n 3, 1) := by decide +kernel
theorem dL_words_16 : decode cL_words 16 = .ok (.iconst 2, 1) := by decide +kernel
theorem dL_words_17 : decode cL_words 17 = .ok (.ireturn, 1) := by decide +kernel
theorem dL_words_18 : decode cL_words 18 = .ok (.iconst 0, 1) := by decide +kernel
theorem dL_words_19 : decode cL_words 19 = .ok (.ireturn, 1) := by decide +kernel
theorem dL_law_0 : decode cL_law 0 = .ok (.new 8, 3) := by decide +kernel
theorem dL_law_3 : decode cL_law 3 = .ok (.dup, 1) := by decide +kernel
theorem dL_law_4 : decode cL_law 4 = .ok (.invokespecial 82, 3) := by decide +kernel
theorem dL_law_7 : decode cL_law 7 = .ok (.astore_n 1, 1) := by decide +kernel
theorem dL_law_8 : decode cL_law 8 = .ok (.new 83, 3) := by decide +kernel
theorem dL_law_11 : decode cL_law 11 = .ok (.dup, 1) := by decide +kernel
theorem dL_law_12 : decode cL_law 12 = .ok (.invokespecial 85, 3) := by decide +kernel
theorem dL_law_15 : decode cL_law 15 = .ok (.astore_n 2, 1) := by decide +kernel
theorem dL_law_16 : decode cL_law 16 = .ok (.iconst 1, 1) := by decide +kernel
theorem dL_law_17 : decode cL_law 17 = .ok (.newarray .long, 2) := by decide +kernel
theorem dL_law_19 : decode cL_law 19 = .ok (.astore_n 3, 1) := by decide +kernel
theorem dL_law_20 : decode cL_law 20 = .ok (.iconst 1, 1) := by decide +kernel
theorem dL_law_21 : decode cL_law 21 = .ok (.newarray .double, 2) := by decide +kernel
theorem dL_law_23 : decode cL_law 23 = .ok (.astore 4, 2) := by decide +kernel
theorem dL_law_25 : decode cL_law 25 = .ok (.iconst 0, 1) := by decide +kernel
theorem dL_law_26 : decode cL_law 26 = .ok (.istore 5, 2) := by decide +kernel
theorem dL_law_28 : decode cL_law 28 = .ok (.iload 5, 2) := by decide +kernel
theorem dL_law_30 : decode cL_law 30 = .ok (.aload_n 0, 1) := by decide +kernel
theorem dL_law_31 : decode cL_law 31 = .ok (.arraylength, 1) := by decide +kernel
theorem dL_law_32 : decode cL_law 32 = .ok (.iconst 3, 1) := by decide +kernel
theorem dL_law_33 : decode cL_law 33 = .ok (.isub, 1) := by decide +kernel
theorem dL_law_34 : decode cL_law 34 = .ok (.if_icmp .gt 1429, 3) := by decide +kernel
theorem dL_law_37 : decode cL_law 37 = .ok (.aload_n 0, 1) := by decide +kernel
theorem dL_law_38 : decode cL_law 38 = .ok (.iload 5, 2) := by decide +kernel
theorem dL_law_40 : decode cL_law 40 = .ok (.iaload, 1) := by decide +kernel
theorem dL_law_41 : decode cL_law 41 = .ok (.bipush 31, 2) := by decide +kernel
theorem dL_law_43 : decode cL_law 43 = .ok (.iand, 1) := by decide +kernel
theorem dL_law_44 : decode cL_law 44 = .ok (.tableswitch 1413 0 25 #[120, 176, 232, 300, 344, 357, 413, 481, 494, 562, 603, 671, 746, 759, 772, 828, 884, 940, 996, 1064, 1120, 1164, 1227, 1278, 1343, 1399], 120) := by decide +kernel
theorem dL_law_164 : decode cL_law 164 = .ok (.aload_n 1, 1) := by decide +kernel
theorem dL_law_165 : decode cL_law 165 = .ok (.aload_n 0, 1) := by decide +kernel
theorem dL_law_166 : decode cL_law 166 = .ok (.iload 5, 2) := by decide +kernel
theorem dL_law_168 : decode cL_law 168 = .ok (.iconst 1, 1) := by decide +kernel
theorem dL_law_169 : decode cL_law 169 = .ok (.iadd, 1) := by decide +kernel
theorem dL_law_170 : decode cL_law 170 = .ok (.iaload, 1) := by decide +kernel
theorem dL_law_171 : decode cL_law 171 = .ok (.aload_n 3, 1) := by decide +kernel
theorem dL_law_172 : decode cL_law 172 = .ok (.invokestatic 86, 3) := by decide +kernel
theorem dL_law_175 : decode cL_law 175 = .ok (.istore 6, 2) := by decide +kernel
theorem dL_law_177 : decode cL_law 177 = .ok (.aload_n 2, 1) := by decide +kernel
theorem dL_law_178 : decode cL_law 178 = .ok (.aload_n 0, 1) := by decide +kernel
theorem dL_law_179 : decode cL_law 179 = .ok (.iload 5, 2) := by decide +kernel
theorem dL_law_181 : decode cL_law 181 = .ok (.iconst 1, 1) := by decide +kernel
theorem dL_law_182 : decode cL_law 182 = .ok (.iadd, 1) := by decide +kernel
theorem dL_law_183 : decode cL_law 183 = .ok (.iaload, 1) := by decide +kernel
theorem dL_law_184 : decode cL_law 184 = .ok (.invokevirtual 91, 3) := by decide +kernel
theorem dL_law_187 : decode cL_law 187 = .ok (.istore 7, 2) := by decide +kernel
theorem dL_law_189 : decode cL_law 189 = .ok (.aload_n 2, 1) := by decide +kernel
theorem dL_law_190 : decode cL_law 190 = .ok (.invokevirtual 92, 3) := by decide +kernel
theorem dL_law_193 : decode cL_law 193 = .ok (.iload 6, 2) := by decide +kernel
theorem dL_law_195 : decode cL_law 195 = .ok (.if_icmp .eq 5, 3) := by decide +kernel
theorem dL_law_198 : decode cL_law 198 = .ok (.iconst 0, 1) := by decide +kernel
theorem dL_law_199 : decode cL_law 199 = .ok (.ireturn, 1) := by decide +kernel
theorem dL_law_200 : decode cL_law 200 = .ok (.iload 6, 2) := by decide +kernel
theorem dL_law_202 : decode cL_law 202 = .ok (.ifCond .ne 15, 3) := by decide +kernel
theorem dL_law_205 : decode cL_law 205 = .ok (.aload_n 3, 1) := by decide +kernel
theorem dL_law_206 : decode cL_law 206 = .ok (.iconst 0, 1) := by decide +kernel
theorem dL_law_207 : decode cL_law 207 = .ok (.laload, 1) := by decide +kernel
theorem dL_law_208 : decode cL_law 208 = .ok (.iload 7, 2) := by decide +kernel
theorem dL_law_210 : decode cL_law 210 = .ok (.i2l, 1) := by decide +kernel
theorem dL_law_211 : decode cL_law 211 = .ok (.lcmp, 1) := by decide +kernel
theorem dL_law_212 : decode cL_law 212 = .ok (.ifCond .eq 5, 3) := by decide +kernel
theorem dL_law_215 : decode cL_law 215 = .ok (.iconst 0, 1) := by decide +kernel
theorem dL_law_216 : decode cL_law 216 = .ok (.ireturn, 1) := by decide +kernel
theorem dL_law_217 : decode cL_law 217 = .ok (.goto 1240, 3) := by decide +kernel
theorem dL_law_220 : decode cL_law 220 = .ok (.aload_n 1, 1) := by decide +kernel
theorem dL_law_221 : decode cL_law 221 = .ok (.aload_n 0, 1) := by decide +kernel
theorem dL_law_222 : decode cL_law 222 = .ok (.iload 5, 2) := by decide +kernel
theorem dL_law_224 : decode cL_law 224 = .ok (.iconst 1, 1) := by decide +kernel
theorem dL_law_225 : decode cL_law 225 = .ok (.iadd, 1) := by decide +kernel
theorem dL_law_226 : decode cL_law 226 = .ok (.iaload, 1) := by decide +kernel
theorem dL_law_227 : decode cL_law 227 = .ok (.aload_n 3, 1) := by decide +kernel
theorem dL_law_228 : decode cL_law 228 = .ok (.invokestatic 95, 3) := by decide +kernel
theorem dL_law_231 : decode cL_law 231 = .ok (.istore 6, 2) := by decide +kernel
theorem dL_law_233 : decode cL_law 233 = .ok (.aload_n 2, 1) := by decide +kernel
theorem dL_law_234 : decode cL_law 234 = .ok (.aload_n 0, 1) := by decide +kernel
theorem dL_law_235 : decode cL_law 235 = .ok (.iload 5, 2) := by decide +kernel
theorem dL_law_237 : decode cL_law 237 = .ok (.iconst 1, 1) := by decide +kernel
theorem dL_law_238 : decode cL_law 238 = .ok (.iadd, 1) := by decide +kernel
theorem dL_law_239 : decode cL_law 239 = .ok (.iaload, 1) := by decide +kernel
theorem dL_law_240 : decode cL_law 240 = .ok (.invokevirtual 97, 3) := by decide +kernel
theorem dL_law_243 : decode cL_law 243 = .ok (.istore 7, 2) := by decide +kernel
theorem dL_law_245 : decode cL_law 245 = .ok (.aload_n 2, 1) := by decide +kernel
theorem dL_law_246 : decode cL_law 246 = .ok (.invokevirtual 92, 3) := by decide +kernel
theorem dL_law_249 : decode cL_law 249 = .ok (.iload 6, 2) := by decide +kernel
theorem dL_law_251 : decode cL_law 251 = .ok (.if_icmp .eq 5, 3) := by decide +kernel
theorem dL_law_254 : decode cL_law 254 = .ok (.iconst 0, 1) := by decide +kernel
theorem dL_law_255 : decode cL_law 255 = .ok (.ireturn, 1) := by decide +kernel
theorem dL_law_256 : decode cL_law 256 = .ok (.iload 6, 2) := by decide +kernel
theorem dL_law_258 : decode cL_law 258 = .ok (.ifCond .ne 15, 3) := by decide +kernel
theorem dL_law_261 : decode cL_law 261 = .ok (.aload_n 3, 1) := by decide +kernel
theorem dL_law_262 : decode cL_law 262 = .ok (.iconst 0, 1) := by decide +kernel
theorem dL_law_263 : decode cL_law 263 = .ok (.laload, 1) := by decide +kernel
theorem dL_law_264 : decode cL_law 264 = .ok (.iload 7, 2) := by decide +kernel
theorem dL_law_266 : decode cL_law 266 = .ok (.i2l, 1) := by decide +kernel
theorem dL_law_267 : decode cL_law 267 = .ok (.lcmp, 1) := by decide +kernel
theorem dL_law_268 : decode cL_law 268 = .ok (.ifCond .eq 5, 3) := by decide +kernel
theorem dL_law_271 : decode cL_law 271 = .ok (.iconst 0, 1) := by decide +kernel
theorem dL_law_272 : decode cL_law 272 = .ok (.ireturn, 1) := by decide +kernel
theorem dL_law_273 : decode cL_law 273 = .ok (.goto 1184, 3) := by decide +kernel
theorem dL_law_276 : decode cL_law 276 = .ok (.aload_n 1, 1) := by decide +kernel
theorem dL_law_277 : decode cL_law 277 = .ok (.aload_n 0, 1) := by decide +kernel
theorem dL_law_278 : decode cL_law 278 = .ok (.iload 5, 2) := by decide +kernel
theorem dL_law_280 : decode cL_law 280 = .ok (.iconst 1, 1) := by decide +kernel
theorem dL_law_281 : decode cL_law 281 = .ok (.iadd, 1) := by decide +kernel
theorem dL_law_282 : decode cL_law 282 = .ok (.iaload, 1) := by decide +kernel
theorem dL_law_283 : decode cL_law 283 = .ok (.aload_n 0, 1) := by decide +kernel
theorem dL_law_284 : decode cL_law 284 = .ok (.iload 5, 2) := by decide +kernel
theorem dL_law_286 : decode cL_law 286 = .ok (.iconst 2, 1) := by decide +kernel
theorem dL_law_287 : decode cL_law 287 = .ok (.iadd, 1) := by decide +kernel
theorem dL_law_288 : decode cL_law 288 = .ok (.iaload, 1) := by decide +kernel
theorem dL_law_289 : decode cL_law 289 = .ok (.aload_n 3, 1) := by decide +kernel
theorem dL_law_290 : decode cL_law 290 = .ok (.invokestatic 98, 3) := by decide +kernel
theorem dL_law_293 : decode cL_law 293 = .ok (.istore 6, 2) := by decide +kernel
theorem dL_law_295 : decode cL_law 295 = .ok (.aload_n 2, 1) := by decide +kernel
theorem dL_law_296 : decode cL_law 296 = .ok (.aload_n 0, 1) := by decide +kernel
theorem dL_law_297 : decode cL_law 297 = .ok (.iload 5, 2) := by decide +kernel
theorem dL_law_299 : decode cL_law 299 = .ok (.iconst 1, 1) := by decide +kernel
theorem dL_law_300 : decode cL_law 300 = .ok (.iadd, 1) := by decide +kernel
theorem dL_law_301 : decode cL_law 301 = .ok (.iaload, 1) := by decide +kernel
theorem dL_law_302 : decode cL_law 302 = .ok (.aload_n 0, 1) := by decide +kernel
theorem dL_law_303 : decode cL_law 303 = .ok (.iload 5, 2) := by decide +kernel
theorem dL_law_305 : decode cL_law 305 = .ok (.iconst 2, 1) := by decide +kernel
theorem dL_law_306 : decode cL_law 306 = .ok (.iadd, 1) := by decide +kernel
theorem dL_law_307 : decode cL_law 307 = .ok (.iaload, 1) := by decide +kernel
theorem dL_law_308 : decode cL_law 308 = .ok (.invokevirtual 101, 3) := by decide +kernel
theorem dL_law_311 : decode cL_law 311 = .ok (.istore 7, 2) := by decide +kernel
theorem dL_law_313 : decode cL_law 313 = .ok (.aload_n 2, 1) := by decide +kernel
theorem dL_law_314 : decode cL_law 314 = .ok (.invokevirtual 92, 3) := by decide +kernel
theorem dL_law_317 : decode cL_law 317 = .ok (.iload 6, 2) := by decide +kernel
theorem dL_law_319 : decode cL_law 319 = .ok (.if_icmp .eq 5, 3) := by decide +kernel
theorem dL_law_322 : decode cL_law 322 = .ok (.iconst 0, 1) := by decide +kernel
theorem dL_law_323 : decode cL_law 323 = .ok (.ireturn, 1) := by decide +kernel
theorem dL_law_324 : decode cL_law 324 = .ok (.iload 6, 2) := by decide +kernel
theorem dL_law_326 : decode cL_law 326 = .ok (.ifCond .ne 15, 3) := by decide +kernel
theorem dL_law_329 : decode cL_law 329 = .ok (.aload_n 3, 1) := by decide +kernel
theorem dL_law_330 : decode cL_law 330 = .ok (.iconst 0, 1) := by decide +kernel
theorem dL_law_331 : decode cL_law 331 = .ok (.laload, 1) := by decide +kernel
theorem dL_law_332 : decode cL_law 332 = .ok (.iload 7, 2) := by decide +kernel
theorem dL_law_334 : decode cL_law 334 = .ok (.i2l, 1) := by decide +kernel
theorem dL_law_335 : decode cL_law 335 = .ok (.lcmp, 1) := by decide +kernel
theorem dL_law_336 : decode cL_law 336 = .ok (.ifCond .eq 5, 3) := by decide +kernel
theorem dL_law_339 : decode cL_law 339 = .ok (.iconst 0, 1) := by decide +kernel
theorem dL_law_340 : decode cL_law 340 = .ok (.ireturn, 1) := by decide +kernel
theorem dL_law_341 : decode cL_law 341 = .ok (.goto 1116, 3) := by decide +kernel
theorem dL_law_344 : decode cL_law 344 = .ok (.aload_n 1, 1) := by decide +kernel
theorem dL_law_345 : decode cL_law 345 = .ok (.aload_n 3, 1) := by decide +kernel
theorem dL_law_346 : decode cL_law 346 = .ok (.invokestatic 102, 3) := by decide +kernel
theorem dL_law_349 : decode cL_law 349 = .ok (.istore 6, 2) := by decide +kernel
theorem dL_law_351 : decode cL_law 351 = .ok (.aload_n 2, 1) := by decide +kernel
theorem dL_law_352 : decode cL_law 352 = .ok (.invokevirtual 105, 3) := by decide +kernel
theorem dL_law_355 : decode cL_law 355 = .ok (.istore 7, 2) := by decide +kernel
theorem dL_law_357 : decode cL_law 357 = .ok (.aload_n 2, 1) := by decide +kernel
theorem dL_law_358 : decode cL_law 358 = .ok (.invokevirtual 92, 3) := by decide +kernel
theorem dL_law_361 : decode cL_law 361 = .ok (.iload 6, 2) := by decide +kernel
theorem dL_law_363 : decode cL_law 363 = .ok (.if_icmp .eq 5, 3) := by decide +kernel
theorem dL_law_366 : decode cL_law 366 = .ok (.iconst 0, 1) := by decide +kernel
theorem dL_law_367 : decode cL_law 367 = .ok (.ireturn, 1) := by decide +kernel
theorem dL_law_368 : decode cL_law 368 = .ok (.iload 6, 2) := by decide +kernel
theorem dL_law_370 : decode cL_law 370 = .ok (.ifCond .ne 15, 3) := by decide +kernel
theorem dL_law_373 : decode cL_law 373 = .ok (.aload_n 3, 1) := by decide +kernel
theorem dL_law_374 : decode cL_law 374 = .ok (.iconst 0, 1) := by decide +kernel
theorem dL_law_375 : decode cL_law 375 = .ok (.laload, 1) := by decide +kernel
theorem dL_law_376 : decode cL_law 376 = .ok (.iload 7, 2) := by decide +kernel
theorem dL_law_378 : decode cL_law 378 = .ok (.i2l, 1) := by decide +kernel
theorem dL_law_379 : decode cL_law 379 = .ok (.lcmp, 1) := by decide +kernel
theorem dL_law_380 : decode cL_law 380 = .ok (.ifCond .eq 5, 3) := by decide +kernel
theorem dL_law_383 : decode cL_law 383 = .ok (.iconst 0, 1) := by decide +kernel
theorem dL_law_384 : decode cL_law 384 = .ok (.ireturn, 1) := by decide +kernel
theorem dL_law_385 : decode cL_law 385 = .ok (.goto 1072, 3) := by decide +kernel
theorem dL_law_388 : decode cL_law 388 = .ok (.aload_n 1, 1) := by decide +kernel
theorem dL_law_389 : decode cL_law 389 = .ok (.invokevirtual 106, 3) := by decide +kernel
theorem dL_law_392 : decode cL_law 392 = .ok (.aload_n 2, 1) := by decide +kernel
theorem dL_law_393 : decode cL_law 393 = .ok (.invokevirtual 109, 3) := by decide +kernel
theorem dL_law_396 : decode cL_law 396 = .ok (.if_icmp .eq 1061, 3) := by decide +kernel
theorem dL_law_399 : decode cL_law 399 = .ok (.iconst 0, 1) := by decide +kernel
theorem dL_law_400 : decode cL_law 400 = .ok (.ireturn, 1) := by decide +kernel
theorem dL_law_401 : decode cL_law 401 = .ok (.aload_n 1, 1) := by decide +kernel
theorem dL_law_402 : decode cL_law 402 = .ok (.aload_n 0, 1) := by decide +kernel
theorem dL_law_403 : decode cL_law 403 = .ok (.iload 5, 2) := by decide +kernel
theorem dL_law_405 : decode cL_law 405 = .ok (.iconst 1, 1) := by decide +kernel
theorem dL_law_406 : decode cL_law 406 = .ok (.iadd, 1) := by decide +kernel
theorem dL_law_407 : decode cL_law 407 = .ok (.iaload, 1) := by decide +kernel
theorem dL_law_408 : decode cL_law 408 = .ok (.aload_n 3, 1) := by decide +kernel
theorem dL_law_409 : decode cL_law 409 = .ok (.invokestatic 110, 3) := by decide +kernel
theorem dL_law_412 : decode cL_law 412 = .ok (.istore 6, 2) := by decide +kernel
theorem dL_law_414 : decode cL_law 414 = .ok (.aload_n 2, 1) := by decide +kernel
theorem dL_law_415 : decode cL_law 415 = .ok (.aload_n 0, 1) := by decide +kernel
theorem dL_law_416 : decode cL_law 416 = .ok (.iload 5, 2) := by decide +kernel
theorem dL_law_418 : decode cL_law 418 = .ok (.iconst 1, 1) := by decide +kernel
theorem dL_law_419 : decode cL_law 419 = .ok (.iadd, 1) := by decide +kernel
theorem dL_law_420 : decode cL_law 420 = .ok (.iaload, 1) := by decide +kernel
theorem dL_law_421 : decode cL_law 421 = .ok (.invokevirtual 112, 3) := by decide +kernel
theorem dL_law_424 : decode cL_law 424 = .ok (.istore 7, 2) := by decide +kernel
theorem dL_law_426 : decode cL_law 426 = .ok (.aload_n 2, 1) := by decide +kernel
theorem dL_law_427 : decode cL_law 427 = .ok (.invokevirtual 92, 3) := by decide +kernel
theorem dL_law_430 : decode cL_law 430 = .ok (.iload 6, 2) := by decide +kernel
theorem dL_law_432 : decode cL_law 432 = .ok (.if_icmp .eq 5, 3) := by decide +kernel
theorem dL_law_435 : decode cL_law 435 = .ok (.iconst 0, 1) := by decide +kernel
theorem dL_law_436 : decode cL_law 436 = .ok (.ireturn, 1) := by decide +kernel
theorem dL_law_437 : decode cL_law 437 = .ok (.iload 6, 2) := by decide +kernel
theorem dL_law_439 : decode cL_law 439 = .ok (.ifCond .ne 15, 3) := by decide +kernel
theorem dL_law_442 : decode cL_law 442 = .ok (.aload_n 3, 1) := by decide +kernel
theorem dL_law_443 : decode cL_law 443 = .ok (.iconst 0, 1) := by decide +kernel
theorem dL_law_444 : decode cL_law 444 = .ok (.laload, 1) := by decide +kernel
theorem dL_law_445 : decode cL_law 445 = .ok (.iload 7, 2) := by decide +kernel
theorem dL_law_447 : decode cL_law 447 = .ok (.i2l, 1) := by decide +kernel
theorem dL_law_448 : decode cL_law 448 = .ok (.lcmp, 1) := by decide +kernel
theorem dL_law_449 : decode cL_law 449 = .ok (.ifCond .eq 5, 3) := by decide +kernel
theorem dL_law_452 : decode cL_law 452 = .ok (.iconst 0, 1) := by decide +kernel
theorem dL_law_453 : decode cL_law 453 = .ok (.ireturn, 1) := by decide +kernel
theorem dL_law_454 : decode cL_law 454 = .ok (.goto 1003, 3) := by decide +kernel
theorem dL_law_457 : decode cL_law 457 = .ok (.aload_n 1, 1) := by decide +kernel
theorem dL_law_458 : decode cL_law 458 = .ok (.aload_n 0, 1) := by decide +kernel
theorem dL_law_459 : decode cL_law 459 = .ok (.iload 5, 2) := by decide +kernel
theorem dL_law_461 : decode cL_law 461 = .ok (.iconst 1, 1) := by decide +kernel
theorem dL_law_462 : decode cL_law 462 = .ok (.iadd, 1) := by decide +kernel
theorem dL_law_463 : decode cL_law 463 = .ok (.iaload, 1) := by decide +kernel
theorem dL_law_464 : decode cL_law 464 = .ok (.aload_n 0, 1) := by decide +kernel
theorem dL_law_465 : decode cL_law 465 = .ok (.iload 5, 2) := by decide +kernel
theorem dL_law_467 : decode cL_law 467 = .ok (.iconst 2, 1) := by decide +kernel
theorem dL_law_468 : decode cL_law 468 = .ok (.iadd, 1) := by decide +kernel
theorem dL_law_469 : decode cL_law 469 = .ok (.iaload, 1) := by decide +kernel
theorem dL_law_470 : decode cL_law 470 = .ok (.aload_n 3, 1) := by decide +kernel
theorem dL_law_471 : decode cL_law 471 = .ok (.invokestatic 113, 3) := by decide +kernel
theorem dL_law_474 : decode cL_law 474 = .ok (.istore 6, 2) := by decide +kernel
theorem dL_law_476 : decode cL_law 476 = .ok (.aload_n 2, 1) := by decide +kernel
theorem dL_law_477 : decode cL_law 477 = .ok (.aload_n 0, 1) := by decide +kernel
theorem dL_law_478 : decode cL_law 478 = .ok (.iload 5, 2) := by decide +kernel
theorem dL_law_480 : decode cL_law 480 = .ok (.iconst 1, 1) := by decide +kernel
theorem dL_law_481 : decode cL_law 481 = .ok (.iadd, 1) := by decide +kernel
theorem dL_law_482 : decode cL_law 482 = .ok (.iaload, 1) := by decide +kernel
theorem dL_law_483 : decode cL_law 483 = .ok (.aload_n 0, 1) := by decide +kernel
theorem dL_law_484 : decode cL_law 484 = .ok (.iload 5, 2) := by decide +kernel
theorem dL_law_486 : decode cL_law 486 = .ok (.iconst 2, 1) := by decide +kernel
theorem dL_law_487 : decode cL_law 487 = .ok (.iadd, 1) := by decide +kernel
theorem dL_law_488 : decode cL_law 488 = .ok (.iaload, 1) := by decide +kernel
theorem dL_law_489 : decode cL_law 489 = .ok (.invokevirtual 115, 3) := by decide +kernel
theorem dL_law_492 : decode cL_law 492 = .ok (.istore 7, 2) := by decide +kernel
theorem dL_law_494 : decode cL_law 494 = .ok (.aload_n 2, 1) := by decide +kernel
theorem dL_law_495 : decode cL_law 495 = .ok (.invokevirtual 92, 3) := by decide +kernel
theorem dL_law_498 : decode cL_law 498 = .ok (.iload 6, 2) := by decide +kernel
theorem dL_law_500 : decode cL_law 500 = .ok (.if_icmp .eq 5, 3) := by decide +kernel
theorem dL_law_503 : decode cL_law 503 = .ok (.iconst 0, 1) := by decide +kernel
theorem dL_law_504 : decode cL_law 504 = .ok (.ireturn, 1) := by decide +kernel
theorem dL_law_505 : decode cL_law 505 = .ok (.iload 6, 2) := by decide +kernel
theorem dL_law_507 : decode cL_law 507 = .ok (.ifCond .ne 15, 3) := by decide +kernel
theorem dL_law_510 : decode cL_law 510 = .ok (.aload_n 3, 1) := by decide +kernel
theorem dL_law_511 : decode cL_law 511 = .ok (.iconst 0, 1) := by decide +kernel
theorem dL_law_512 : decode cL_law 512 = .ok (.laload, 1) := by decide +kernel
theorem dL_law_513 : decode cL_law 513 = .ok (.iload 7, 2) := by decide +kernel
theorem dL_law_515 : decode cL_law 515 = .ok (.i2l, 1) := by decide +kernel
theorem dL_law_516 : decode cL_law 516 = .ok (.lcmp, 1) := by decide +kernel
theorem dL_law_517 : decode cL_law 517 = .ok (.ifCond .eq 5, 3) := by decide +kernel
theorem dL_law_520 : decode cL_law 520 = .ok (.iconst 0, 1) := by decide +kernel
theorem dL_law_521 : decode cL_law 521 = .ok (.ireturn, 1) := by decide +kernel
theorem dL_law_522 : decode cL_law 522 = .ok (.goto 935, 3) := by decide +kernel
theorem dL_law_525 : decode cL_law 525 = .ok (.aload_n 1, 1) := by decide +kernel
theorem dL_law_526 : decode cL_law 526 = .ok (.invokevirtual 116, 3) := by decide +kernel
theorem dL_law_529 : decode cL_law 529 = .ok (.aload_n 2, 1) := by decide +kernel
theorem dL_law_530 : decode cL_law 530 = .ok (.invokevirtual 119, 3) := by decide +kernel
theorem dL_law_533 : decode cL_law 533 = .ok (.if_icmp .eq 924, 3) := by decide +kernel
theorem dL_law_536 : decode cL_law 536 = .ok (.iconst 0, 1) := by decide +kernel
theorem dL_law_537 : decode cL_law 537 = .ok (.ireturn, 1) := by decide +kernel
theorem dL_law_538 : decode cL_law 538 = .ok (.aload_n 1, 1) := by decide +kernel
theorem dL_law_539 : decode cL_law 539 = .ok (.aload_n 0, 1) := by decide +kernel
theorem dL_law_540 : decode cL_law 540 = .ok (.iload 5, 2) := by decide +kernel
theorem dL_law_542 : decode cL_law 542 = .ok (.iconst 1, 1) := by decide +kernel
theorem dL_law_543 : decode cL_law 543 = .ok (.iadd, 1) := by decide +kernel
end
section
theorem dL_law_544 : decode cL_law 544 = .ok (.iaload, 1) := by decide +kernel
theorem dL_law_545 : decode cL_law 545 = .ok (.aload_n 0, 1) := by decide +kernel
theorem dL_law_546 : decode cL_law 546 = .ok (.iload 5, 2) := by decide +kernel
theorem dL_law_548 : decode cL_law 548 = .ok (.iconst 2, 1) := by decide +kernel
theorem dL_law_549 : decode cL_law 549 = .ok (.iadd, 1) := by decide +kernel
theorem dL_law_550 : decode cL_law 550 = .ok (.iaload, 1) := by decide +kernel
theorem dL_law_551 : decode cL_law 551 = .ok (.aload_n 3, 1) := by decide +kernel
theorem dL_law_552 : decode cL_law 552 = .ok (.invokestatic 120, 3) := by decide +kernel
theorem dL_law_555 : decode cL_law 555 = .ok (.istore 6, 2) := by decide +kernel
theorem dL_law_557 : decode cL_law 557 = .ok (.aload_n 2, 1) := by decide +kernel
theorem dL_law_558 : decode cL_law 558 = .ok (.aload_n 0, 1) := by decide +kernel
theorem dL_law_559 : decode cL_law 559 = .ok (.iload 5, 2) := by decide +kernel
theorem dL_law_561 : decode cL_law 561 = .ok (.iconst 1, 1) := by decide +kernel
theorem dL_law_562 : decode cL_law 562 = .ok (.iadd, 1) := by decide +kernel
theorem dL_law_563 : decode cL_law 563 = .ok (.iaload, 1) := by decide +kernel
theorem dL_law_564 : decode cL_law 564 = .ok (.aload_n 0, 1) := by decide +kernel
theorem dL_law_565 : decode cL_law 565 = .ok (.iload 5, 2) := by decide +kernel
theorem dL_law_567 : decode cL_law 567 = .ok (.iconst 2, 1) := by decide +kernel
theorem dL_law_568 : decode cL_law 568 = .ok (.iadd, 1) := by decide +kernel
theorem dL_law_569 : decode cL_law 569 = .ok (.iaload, 1) := by decide +kernel
theorem dL_law_570 : decode cL_law 570 = .ok (.invokevirtual 122, 3) := by decide +kernel
theorem dL_law_573 : decode cL_law 573 = .ok (.istore 7, 2) := by decide +kernel
theorem dL_law_575 : decode cL_law 575 = .ok (.aload_n 2, 1) := by decide +kernel
theorem dL_law_576 : decode cL_law 576 = .ok (.invokevirtual 92, 3) := by decide +kernel
theorem dL_law_579 : decode cL_law 579 = .ok (.iload 6, 2) := by decide +kernel
theorem dL_law_581 : decode cL_law 581 = .ok (.if_icmp .eq 5, 3) := by decide +kernel
theorem dL_law_584 : decode cL_law 584 = .ok (.iconst 0, 1) := by decide +kernel
theorem dL_law_585 : decode cL_law 585 = .ok (.ireturn, 1) := by decide +kernel
theorem dL_law_586 : decode cL_law 586 = .ok (.iload 6, 2) := by decide +kernel
theorem dL_law_588 : decode cL_law 588 = .ok (.ifCond .ne 15, 3) := by decide +kernel
theorem dL_law_591 : decode cL_law 591 = .ok (.aload_n 3, 1) := by decide +kernel
theorem dL_law_592 : decode cL_law 592 = .ok (.iconst 0, 1) := by decide +kernel
theorem dL_law_593 : decode cL_law 593 = .ok (.laload, 1) := by decide +kernel
theorem dL_law_594 : decode cL_law 594 = .ok (.iload 7, 2) := by decide +kernel
theorem dL_law_596 : decode cL_law 596 = .ok (.i2l, 1) := by decide +kernel
theorem dL_law_597 : decode cL_law 597 = .ok (.lcmp, 1) := by decide +kernel
theorem dL_law_598 : decode cL_law 598 = .ok (.ifCond .eq 5, 3) := by decide +kernel
theorem dL_law_601 : decode cL_law 601 = .ok (.iconst 0, 1) := by decide +kernel
theorem dL_law_602 : decode cL_law 602 = .ok (.ireturn, 1) := by decide +kernel
theorem dL_law_603 : decode cL_law 603 = .ok (.goto 854, 3) := by decide +kernel
theorem dL_law_606 : decode cL_law 606 = .ok (.aload_n 1, 1) := by decide +kernel
theorem dL_law_607 : decode cL_law 607 = .ok (.aload_n 0, 1) := by decide +kernel
theorem dL_law_608 : decode cL_law 608 = .ok (.iload 5, 2) := by decide +kernel
theorem dL_law_610 : decode cL_law 610 = .ok (.iconst 1, 1) := by decide +kernel
theorem dL_law_611 : decode cL_law 611 = .ok (.iadd, 1) := by decide +kernel
theorem dL_law_612 : decode cL_law 612 = .ok (.iaload, 1) := by decide +kernel
theorem dL_law_613 : decode cL_law 613 = .ok (.ifCond .eq 7, 3) := by decide +kernel
theorem dL_law_616 : decode cL_law 616 = .ok (.iconst 1, 1) := by decide +kernel
theorem dL_law_617 : decode cL_law 617 = .ok (.goto 4, 3) := by decide +kernel
theorem dL_law_620 : decode cL_law 620 = .ok (.iconst 0, 1) := by decide +kernel
theorem dL_law_621 : decode cL_law 621 = .ok (.invokevirtual 123, 3) := by decide +kernel
theorem dL_law_624 : decode cL_law 624 = .ok (.aload_n 2, 1) := by decide +kernel
theorem dL_law_625 : decode cL_law 625 = .ok (.aload_n 0, 1) := by decide +kernel
theorem dL_law_626 : decode cL_law 626 = .ok (.iload 5, 2) := by decide +kernel
theorem dL_law_628 : decode cL_law 628 = .ok (.iconst 1, 1) := by decide +kernel
theorem dL_law_629 : decode cL_law 629 = .ok (.iadd, 1) := by decide +kernel
theorem dL_law_630 : decode cL_law 630 = .ok (.iaload, 1) := by decide +kernel
theorem dL_law_631 : decode cL_law 631 = .ok (.ifCond .eq 7, 3) := by decide +kernel
theorem dL_law_634 : decode cL_law 634 = .ok (.iconst 1, 1) := by decide +kernel
theorem dL_law_635 : decode cL_law 635 = .ok (.goto 4, 3) := by decide +kernel
theorem dL_law_638 : decode cL_law 638 = .ok (.iconst 0, 1) := by decide +kernel
theorem dL_law_639 : decode cL_law 639 = .ok (.invokevirtual 127, 3) := by decide +kernel
theorem dL_law_642 : decode cL_law 642 = .ok (.if_icmp .eq 815, 3) := by decide +kernel
theorem dL_law_645 : decode cL_law 645 = .ok (.iconst 0, 1) := by decide +kernel
theorem dL_law_646 : decode cL_law 646 = .ok (.ireturn, 1) := by decide +kernel
theorem dL_law_647 : decode cL_law 647 = .ok (.aload_n 1, 1) := by decide +kernel
theorem dL_law_648 : decode cL_law 648 = .ok (.aload_n 0, 1) := by decide +kernel
theorem dL_law_649 : decode cL_law 649 = .ok (.iload 5, 2) := by decide +kernel
theorem dL_law_651 : decode cL_law 651 = .ok (.iconst 1, 1) := by decide +kernel
theorem dL_law_652 : decode cL_law 652 = .ok (.iadd, 1) := by decide +kernel
theorem dL_law_653 : decode cL_law 653 = .ok (.iaload, 1) := by decide +kernel
theorem dL_law_654 : decode cL_law 654 = .ok (.aload_n 0, 1) := by decide +kernel
theorem dL_law_655 : decode cL_law 655 = .ok (.iload 5, 2) := by decide +kernel
theorem dL_law_657 : decode cL_law 657 = .ok (.iconst 2, 1) := by decide +kernel
theorem dL_law_658 : decode cL_law 658 = .ok (.iadd, 1) := by decide +kernel
theorem dL_law_659 : decode cL_law 659 = .ok (.iaload, 1) := by decide +kernel
theorem dL_law_660 : decode cL_law 660 = .ok (.aload_n 3, 1) := by decide +kernel
theorem dL_law_661 : decode cL_law 661 = .ok (.invokestatic 128, 3) := by decide +kernel
theorem dL_law_664 : decode cL_law 664 = .ok (.istore 6, 2) := by decide +kernel
theorem dL_law_666 : decode cL_law 666 = .ok (.aload_n 2, 1) := by decide +kernel
theorem dL_law_667 : decode cL_law 667 = .ok (.aload_n 0, 1) := by decide +kernel
theorem dL_law_668 : decode cL_law 668 = .ok (.iload 5, 2) := by decide +kernel
theorem dL_law_670 : decode cL_law 670 = .ok (.iconst 1, 1) := by decide +kernel
theorem dL_law_671 : decode cL_law 671 = .ok (.iadd, 1) := by decide +kernel
theorem dL_law_672 : decode cL_law 672 = .ok (.iaload, 1) := by decide +kernel
theorem dL_law_673 : decode cL_law 673 = .ok (.aload_n 0, 1) := by decide +kernel
theorem dL_law_674 : decode cL_law 674 = .ok (.iload 5, 2) := by decide +kernel
theorem dL_law_676 : decode cL_law 676 = .ok (.iconst 2, 1) := by decide +kernel
theorem dL_law_677 : decode cL_law 677 = .ok (.iadd, 1) := by decide +kernel
theorem dL_law_678 : decode cL_law 678 = .ok (.iaload, 1) := by decide +kernel
theorem dL_law_679 : decode cL_law 679 = .ok (.invokevirtual 130, 3) := by decide +kernel
theorem dL_law_682 : decode cL_law 682 = .ok (.istore 7, 2) := by decide +kernel
theorem dL_law_684 : decode cL_law 684 = .ok (.aload_n 2, 1) := by decide +kernel
theorem dL_law_685 : decode cL_law 685 = .ok (.invokevirtual 92, 3) := by decide +kernel
theorem dL_law_688 : decode cL_law 688 = .ok (.iload 6, 2) := by decide +kernel
theorem dL_law_690 : decode cL_law 690 = .ok (.if_icmp .eq 5, 3) := by decide +kernel
theorem dL_law_693 : decode cL_law 693 = .ok (.iconst 0, 1) := by decide +kernel
theorem dL_law_694 : decode cL_law 694 = .ok (.ireturn, 1) := by decide +kernel
theorem dL_law_695 : decode cL_law 695 = .ok (.iload 6, 2) := by decide +kernel
theorem dL_law_697 : decode cL_law 697 = .ok (.ifCond .ne 15, 3) := by decide +kernel
theorem dL_law_700 : decode cL_law 700 = .ok (.aload_n 3, 1) := by decide +kernel
theorem dL_law_701 : decode cL_law 701 = .ok (.iconst 0, 1) := by decide +kernel
theorem dL_law_702 : decode cL_law 702 = .ok (.laload, 1) := by decide +kernel
theorem dL_law_703 : decode cL_law 703 = .ok (.iload 7, 2) := by decide +kernel
theorem dL_law_705 : decode cL_law 705 = .ok (.i2l, 1) := by decide +kernel
theorem dL_law_706 : decode cL_law 706 = .ok (.lcmp, 1) := by decide +kernel
theorem dL_law_707 : decode cL_law 707 = .ok (.ifCond .eq 5, 3) := by decide +kernel
theorem dL_law_710 : decode cL_law 710 = .ok (.iconst 0, 1) := by decide +kernel
theorem dL_law_711 : decode cL_law 711 = .ok (.ireturn, 1) := by decide +kernel
theorem dL_law_712 : decode cL_law 712 = .ok (.goto 745, 3) := by decide +kernel
theorem dL_law_715 : decode cL_law 715 = .ok (.aload_n 1, 1) := by decide +kernel
theorem dL_law_716 : decode cL_law 716 = .ok (.aload_n 0, 1) := by decide +kernel
theorem dL_law_717 : decode cL_law 717 = .ok (.iload 5, 2) := by decide +kernel
theorem dL_law_719 : decode cL_law 719 = .ok (.iconst 1, 1) := by decide +kernel
theorem dL_law_720 : decode cL_law 720 = .ok (.iadd, 1) := by decide +kernel
theorem dL_law_721 : decode cL_law 721 = .ok (.iaload, 1) := by decide +kernel
theorem dL_law_722 : decode cL_law 722 = .ok (.aload_n 0, 1) := by decide +kernel
theorem dL_law_723 : decode cL_law 723 = .ok (.iload 5, 2) := by decide +kernel
theorem dL_law_725 : decode cL_law 725 = .ok (.iconst 2, 1) := by decide +kernel
theorem dL_law_726 : decode cL_law 726 = .ok (.iadd, 1) := by decide +kernel
theorem dL_law_727 : decode cL_law 727 = .ok (.iaload, 1) := by decide +kernel
theorem dL_law_728 : decode cL_law 728 = .ok (.aload_n 3, 1) := by decide +kernel
theorem dL_law_729 : decode cL_law 729 = .ok (.invokestatic 131, 3) := by decide +kernel
theorem dL_law_732 : decode cL_law 732 = .ok (.istore 6, 2) := by decide +kernel
theorem dL_law_734 : decode cL_law 734 = .ok (.aload_n 2, 1) := by decide +kernel
theorem dL_law_735 : decode cL_law 735 = .ok (.aload_n 0, 1) := by decide +kernel
theorem dL_law_736 : decode cL_law 736 = .ok (.iload 5, 2) := by decide +kernel
theorem dL_law_738 : decode cL_law 738 = .ok (.iconst 1, 1) := by decide +kernel
theorem dL_law_739 : decode cL_law 739 = .ok (.iadd, 1) := by decide +kernel
theorem dL_law_740 : decode cL_law 740 = .ok (.iaload, 1) := by decide +kernel
theorem dL_law_741 : decode cL_law 741 = .ok (.aload_n 0, 1) := by decide +kernel
theorem dL_law_742 : decode cL_law 742 = .ok (.iload 5, 2) := by decide +kernel
theorem dL_law_744 : decode cL_law 744 = .ok (.iconst 2, 1) := by decide +kernel
theorem dL_law_745 : decode cL_law 745 = .ok (.iadd, 1) := by decide +kernel
theorem dL_law_746 : decode cL_law 746 = .ok (.iaload, 1) := by decide +kernel
theorem dL_law_747 : decode cL_law 747 = .ok (.invokevirtual 133, 3) := by decide +kernel
theorem dL_law_750 : decode cL_law 750 = .ok (.istore 7, 2) := by decide +kernel
theorem dL_law_752 : decode cL_law 752 = .ok (.aload_n 2, 1) := by decide +kernel
theorem dL_law_753 : decode cL_law 753 = .ok (.invokevirtual 92, 3) := by decide +kernel
theorem dL_law_756 : decode cL_law 756 = .ok (.iload 6, 2) := by decide +kernel
theorem dL_law_758 : decode cL_law 758 = .ok (.if_icmp .eq 5, 3) := by decide +kernel
theorem dL_law_761 : decode cL_law 761 = .ok (.iconst 0, 1) := by decide +kernel
theorem dL_law_762 : decode cL_law 762 = .ok (.ireturn, 1) := by decide +kernel
theorem dL_law_763 : decode cL_law 763 = .ok (.iload 6, 2) := by decide +kernel
theorem dL_law_765 : decode cL_law 765 = .ok (.ifCond .ne 22, 3) := by decide +kernel
theorem dL_law_768 : decode cL_law 768 = .ok (.aload_n 3, 1) := by decide +kernel
theorem dL_law_769 : decode cL_law 769 = .ok (.iconst 0, 1) := by decide +kernel
theorem dL_law_770 : decode cL_law 770 = .ok (.laload, 1) := by decide +kernel
theorem dL_law_771 : decode cL_law 771 = .ok (.iload 7, 2) := by decide +kernel
theorem dL_law_773 : decode cL_law 773 = .ok (.ifCond .eq 7, 3) := by decide +kernel
theorem dL_law_776 : decode cL_law 776 = .ok (.lconst 1, 1) := by decide +kernel
theorem dL_law_777 : decode cL_law 777 = .ok (.goto 4, 3) := by decide +kernel
theorem dL_law_780 : decode cL_law 780 = .ok (.lconst 0, 1) := by decide +kernel
theorem dL_law_781 : decode cL_law 781 = .ok (.lcmp, 1) := by decide +kernel
theorem dL_law_782 : decode cL_law 782 = .ok (.ifCond .eq 5, 3) := by decide +kernel
theorem dL_law_785 : decode cL_law 785 = .ok (.iconst 0, 1) := by decide +kernel
theorem dL_law_786 : decode cL_law 786 = .ok (.ireturn, 1) := by decide +kernel
theorem dL_law_787 : decode cL_law 787 = .ok (.goto 670, 3) := by decide +kernel
theorem dL_law_790 : decode cL_law 790 = .ok (.aload_n 1, 1) := by decide +kernel
theorem dL_law_791 : decode cL_law 791 = .ok (.invokevirtual 134, 3) := by decide +kernel
theorem dL_law_794 : decode cL_law 794 = .ok (.aload_n 2, 1) := by decide +kernel
theorem dL_law_795 : decode cL_law 795 = .ok (.invokevirtual 137, 3) := by decide +kernel
theorem dL_law_798 : decode cL_law 798 = .ok (.if_icmp .eq 659, 3) := by decide +kernel
theorem dL_law_801 : decode cL_law 801 = .ok (.iconst 0, 1) := by decide +kernel
theorem dL_law_802 : decode cL_law 802 = .ok (.ireturn, 1) := by decide +kernel
theorem dL_law_803 : decode cL_law 803 = .ok (.aload_n 1, 1) := by decide +kernel
theorem dL_law_804 : decode cL_law 804 = .ok (.invokevirtual 138, 3) := by decide +kernel
theorem dL_law_807 : decode cL_law 807 = .ok (.aload_n 2, 1) := by decide +kernel
theorem dL_law_808 : decode cL_law 808 = .ok (.invokevirtual 141, 3) := by decide +kernel
theorem dL_law_811 : decode cL_law 811 = .ok (.if_icmp .eq 646, 3) := by decide +kernel
theorem dL_law_814 : decode cL_law 814 = .ok (.iconst 0, 1) := by decide +kernel
theorem dL_law_815 : decode cL_law 815 = .ok (.ireturn, 1) := by decide +kernel
theorem dL_law_816 : decode cL_law 816 = .ok (.aload_n 1, 1) := by decide +kernel
theorem dL_law_817 : decode cL_law 817 = .ok (.aload_n 0, 1) := by decide +kernel
theorem dL_law_818 : decode cL_law 818 = .ok (.iload 5, 2) := by decide +kernel
theorem dL_law_820 : decode cL_law 820 = .ok (.iconst 1, 1) := by decide +kernel
theorem dL_law_821 : decode cL_law 821 = .ok (.iadd, 1) := by decide +kernel
theorem dL_law_822 : decode cL_law 822 = .ok (.iaload, 1) := by decide +kernel
theorem dL_law_823 : decode cL_law 823 = .ok (.aload_n 3, 1) := by decide +kernel
theorem dL_law_824 : decode cL_law 824 = .ok (.invokestatic 142, 3) := by decide +kernel
theorem dL_law_827 : decode cL_law 827 = .ok (.istore 6, 2) := by decide +kernel
theorem dL_law_829 : decode cL_law 829 = .ok (.aload_n 2, 1) := by decide +kernel
theorem dL_law_830 : decode cL_law 830 = .ok (.aload_n 0, 1) := by decide +kernel
theorem dL_law_831 : decode cL_law 831 = .ok (.iload 5, 2) := by decide +kernel
theorem dL_law_833 : decode cL_law 833 = .ok (.iconst 1, 1) := by decide +kernel
theorem dL_law_834 : decode cL_law 834 = .ok (.iadd, 1) := by decide +kernel
theorem dL_law_835 : decode cL_law 835 = .ok (.iaload, 1) := by decide +kernel
theorem dL_law_836 : decode cL_law 836 = .ok (.invokevirtual 144, 3) := by decide +kernel
theorem dL_law_839 : decode cL_law 839 = .ok (.istore 7, 2) := by decide +kernel
theorem dL_law_841 : decode cL_law 841 = .ok (.aload_n 2, 1) := by decide +kernel
theorem dL_law_842 : decode cL_law 842 = .ok (.invokevirtual 92, 3) := by decide +kernel
theorem dL_law_845 : decode cL_law 845 = .ok (.iload 6, 2) := by decide +kernel
theorem dL_law_847 : decode cL_law 847 = .ok (.if_icmp .eq 5, 3) := by decide +kernel
theorem dL_law_850 : decode cL_law 850 = .ok (.iconst 0, 1) := by decide +kernel
theorem dL_law_851 : decode cL_law 851 = .ok (.ireturn, 1) := by decide +kernel
theorem dL_law_852 : decode cL_law 852 = .ok (.iload 6, 2) := by decide +kernel
theorem dL_law_854 : decode cL_law 854 = .ok (.ifCond .ne 15, 3) := by decide +kernel
theorem dL_law_857 : decode cL_law 857 = .ok (.aload_n 3, 1) := by decide +kernel
theorem dL_law_858 : decode cL_law 858 = .ok (.iconst 0, 1) := by decide +kernel
theorem dL_law_859 : decode cL_law 859 = .ok (.laload, 1) := by decide +kernel
theorem dL_law_860 : decode cL_law 860 = .ok (.iload 7, 2) := by decide +kernel
theorem dL_law_862 : decode cL_law 862 = .ok (.i2l, 1) := by decide +kernel
theorem dL_law_863 : decode cL_law 863 = .ok (.lcmp, 1) := by decide +kernel
theorem dL_law_864 : decode cL_law 864 = .ok (.ifCond .eq 5, 3) := by decide +kernel
theorem dL_law_867 : decode cL_law 867 = .ok (.iconst 0, 1) := by decide +kernel
theorem dL_law_868 : decode cL_law 868 = .ok (.ireturn, 1) := by decide +kernel
theorem dL_law_869 : decode cL_law 869 = .ok (.goto 588, 3) := by decide +kernel
theorem dL_law_872 : decode cL_law 872 = .ok (.aload_n 1, 1) := by decide +kernel
theorem dL_law_873 : decode cL_law 873 = .ok (.aload_n 0, 1) := by decide +kernel
theorem dL_law_874 : decode cL_law 874 = .ok (.iload 5, 2) := by decide +kernel
theorem dL_law_876 : decode cL_law 876 = .ok (.iconst 1, 1) := by decide +kernel
theorem dL_law_877 : decode cL_law 877 = .ok (.iadd, 1) := by decide +kernel
theorem dL_law_878 : decode cL_law 878 = .ok (.iaload, 1) := by decide +kernel
theorem dL_law_879 : decode cL_law 879 = .ok (.aload_n 3, 1) := by decide +kernel
theorem dL_law_880 : decode cL_law 880 = .ok (.invokestatic 145, 3) := by decide +kernel
theorem dL_law_883 : decode cL_law 883 = .ok (.istore 6, 2) := by decide +kernel
theorem dL_law_885 : decode cL_law 885 = .ok (.aload_n 2, 1) := by decide +kernel
theorem dL_law_886 : decode cL_law 886 = .ok (.aload_n 0, 1) := by decide +kernel
theorem dL_law_887 : decode cL_law 887 = .ok (.iload 5, 2) := by decide +kernel
theorem dL_law_889 : decode cL_law 889 = .ok (.iconst 1, 1) := by decide +kernel
theorem dL_law_890 : decode cL_law 890 = .ok (.iadd, 1) := by decide +kernel
theorem dL_law_891 : decode cL_law 891 = .ok (.iaload, 1) := by decide +kernel
theorem dL_law_892 : decode cL_law 892 = .ok (.invokevirtual 147, 3) := by decide +kernel
theorem dL_law_895 : decode cL_law 895 = .ok (.istore 7, 2) := by decide +kernel
theorem dL_law_897 : decode cL_law 897 = .ok (.aload_n 2, 1) := by decide +kernel
theorem dL_law_898 : decode cL_law 898 = .ok (.invokevirtual 92, 3) := by decide +kernel
theorem dL_law_901 : decode cL_law 901 = .ok (.iload 6, 2) := by decide +kernel
theorem dL_law_903 : decode cL_law 903 = .ok (.if_icmp .eq 5, 3) := by decide +kernel
theorem dL_law_906 : decode cL_law 906 = .ok (.iconst 0, 1) := by decide +kernel
theorem dL_law_907 : decode cL_law 907 = .ok (.ireturn, 1) := by decide +kernel
theorem dL_law_908 : decode cL_law 908 = .ok (.iload 6, 2) := by decide +kernel
theorem dL_law_910 : decode cL_law 910 = .ok (.ifCond .ne 15, 3) := by decide +kernel
theorem dL_law_913 : decode cL_law 913 = .ok (.aload_n 3, 1) := by decide +kernel
theorem dL_law_914 : decode cL_law 914 = .ok (.iconst 0, 1) := by decide +kernel
theorem dL_law_915 : decode cL_law 915 = .ok (.laload, 1) := by decide +kernel
theorem dL_law_916 : decode cL_law 916 = .ok (.iload 7, 2) := by decide +kernel
theorem dL_law_918 : decode cL_law 918 = .ok (.i2l, 1) := by decide +kernel
theorem dL_law_919 : decode cL_law 919 = .ok (.lcmp, 1) := by decide +kernel
theorem dL_law_920 : decode cL_law 920 = .ok (.ifCond .eq 5, 3) := by decide +kernel
theorem dL_law_923 : decode cL_law 923 = .ok (.iconst 0, 1) := by decide +kernel
theorem dL_law_924 : decode cL_law 924 = .ok (.ireturn, 1) := by decide +kernel
theorem dL_law_925 : decode cL_law 925 = .ok (.goto 532, 3) := by decide +kernel
theorem dL_law_928 : decode cL_law 928 = .ok (.aload_n 1, 1) := by decide +kernel
theorem dL_law_929 : decode cL_law 929 = .ok (.aload_n 0, 1) := by decide +kernel
theorem dL_law_930 : decode cL_law 930 = .ok (.iload 5, 2) := by decide +kernel
theorem dL_law_932 : decode cL_law 932 = .ok (.iconst 1, 1) := by decide +kernel
theorem dL_law_933 : decode cL_law 933 = .ok (.iadd, 1) := by decide +kernel
theorem dL_law_934 : decode cL_law 934 = .ok (.iaload, 1) := by decide +kernel
theorem dL_law_935 : decode cL_law 935 = .ok (.aload_n 3, 1) := by decide +kernel
theorem dL_law_936 : decode cL_law 936 = .ok (.invokestatic 148, 3) := by decide +kernel
theorem dL_law_939 : decode cL_law 939 = .ok (.istore 6, 2) := by decide +kernel
theorem dL_law_941 : decode cL_law 941 = .ok (.aload_n 2, 1) := by decide +kernel
theorem dL_law_942 : decode cL_law 942 = .ok (.aload_n 0, 1) := by decide +kernel
theorem dL_law_943 : decode cL_law 943 = .ok (.iload 5, 2) := by decide +kernel
theorem dL_law_945 : decode cL_law 945 = .ok (.iconst 1, 1) := by decide +kernel
theorem dL_law_946 : decode cL_law 946 = .ok (.iadd, 1) := by decide +kernel
theorem dL_law_947 : decode cL_law 947 = .ok (.iaload, 1) := by decide +kernel
theorem dL_law_948 : decode cL_law 948 = .ok (.invokevirtual 150, 3) := by decide +kernel
theorem dL_law_951 : decode cL_law 951 = .ok (.istore 7, 2) := by decide +kernel
theorem dL_law_953 : decode cL_law 953 = .ok (.aload_n 2, 1) := by decide +kernel
theorem dL_law_954 : decode cL_law 954 = .ok (.invokevirtual 92, 3) := by decide +kernel
theorem dL_law_957 : decode cL_law 957 = .ok (.iload 6, 2) := by decide +kernel
theorem dL_law_959 : decode cL_law 959 = .ok (.if_icmp .eq 5, 3) := by decide +kernel
theorem dL_law_962 : decode cL_law 962 = .ok (.iconst 0, 1) := by decide +kernel
theorem dL_law_963 : decode cL_law 963 = .ok (.ireturn, 1) := by decide +kernel
theorem dL_law_964 : decode cL_law 964 = .ok (.iload 6, 2) := by decide +kernel
theorem dL_law_966 : decode cL_law 966 = .ok (.ifCond .ne 15, 3) := by decide +kernel
theorem dL_law_969 : decode cL_law 969 = .ok (.aload_n 3, 1) := by decide +kernel
theorem dL_law_970 : decode cL_law 970 = .ok (.iconst 0, 1) := by decide +kernel
theorem dL_law_971 : decode cL_law 971 = .ok (.laload, 1) := by decide +kernel
theorem dL_law_972 : decode cL_law 972 = .ok (.iload 7, 2) := by decide +kernel
theorem dL_law_974 : decode cL_law 974 = .ok (.i2l, 1) := by decide +kernel
theorem dL_law_975 : decode cL_law 975 = .ok (.lcmp, 1) := by decide +kernel
theorem dL_law_976 : decode cL_law 976 = .ok (.ifCond .eq 5, 3) := by decide +kernel
theorem dL_law_979 : decode cL_law 979 = .ok (.iconst 0, 1) := by decide +kernel
theorem dL_law_980 : decode cL_law 980 = .ok (.ireturn, 1) := by decide +kernel
theorem dL_law_981 : decode cL_law 981 = .ok (.goto 476, 3) := by decide +kernel
theorem dL_law_984 : decode cL_law 984 = .ok (.aload_n 1, 1) := by decide +kernel
theorem dL_law_985 : decode cL_law 985 = .ok (.aload_n 0, 1) := by decide +kernel
theorem dL_law_986 : decode cL_law 986 = .ok (.iload 5, 2) := by decide +kernel
theorem dL_law_988 : decode cL_law 988 = .ok (.iconst 1, 1) := by decide +kernel
theorem dL_law_989 : decode cL_law 989 = .ok (.iadd, 1) := by decide +kernel
theorem dL_law_990 : decode cL_law 990 = .ok (.iaload, 1) := by decide +kernel
theorem dL_law_991 : decode cL_law 991 = .ok (.aload_n 3, 1) := by decide +kernel
theorem dL_law_992 : decode cL_law 992 = .ok (.invokestatic 151, 3) := by decide +kernel
theorem dL_law_995 : decode cL_law 995 = .ok (.istore 6, 2) := by decide +kernel
theorem dL_law_997 : decode cL_law 997 = .ok (.aload_n 2, 1) := by decide +kernel
theorem dL_law_998 : decode cL_law 998 = .ok (.aload_n 0, 1) := by decide +kernel
theorem dL_law_999 : decode cL_law 999 = .ok (.iload 5, 2) := by decide +kernel
theorem dL_law_1001 : decode cL_law 1001 = .ok (.iconst 1, 1) := by decide +kernel
theorem dL_law_1002 : decode cL_law 1002 = .ok (.iadd, 1) := by decide +kernel
theorem dL_law_1003 : decode cL_law 1003 = .ok (.iaload, 1) := by decide +kernel
theorem dL_law_1004 : decode cL_law 1004 = .ok (.invokevirtual 153, 3) := by decide +kernel
theorem dL_law_1007 : decode cL_law 1007 = .ok (.istore 7, 2) := by decide +kernel
theorem dL_law_1009 : decode cL_law 1009 = .ok (.aload_n 2, 1) := by decide +kernel
theorem dL_law_1010 : decode cL_law 1010 = .ok (.invokevirtual 92, 3) := by decide +kernel
theorem dL_law_1013 : decode cL_law 1013 = .ok (.iload 6, 2) := by decide +kernel
theorem dL_law_1015 : decode cL_law 1015 = .ok (.if_icmp .eq 5, 3) := by decide +kernel
theorem dL_law_1018 : decode cL_law 1018 = .ok (.iconst 0, 1) := by decide +kernel
theorem dL_law_1019 : decode cL_law 1019 = .ok (.ireturn, 1) := by decide +kernel
theorem dL_law_1020 : decode cL_law 1020 = .ok (.iload 6, 2) := by decide +kernel
theorem dL_law_1022 : decode cL_law 1022 = .ok (.ifCond .ne 15, 3) := by decide +kernel
theorem dL_law_1025 : decode cL_law 1025 = .ok (.aload_n 3, 1) := by decide +kernel
theorem dL_law_1026 : decode cL_law 1026 = .ok (.iconst 0, 1) := by decide +kernel
theorem dL_law_1027 : decode cL_law 1027 = .ok (.laload, 1) := by decide +kernel
theorem dL_law_1028 : decode cL_law 1028 = .ok (.iload 7, 2) := by decide +kernel
theorem dL_law_1030 : decode cL_law 1030 = .ok (.i2l, 1) := by decide +kernel
theorem dL_law_1031 : decode cL_law 1031 = .ok (.lcmp, 1) := by decide +kernel
theorem dL_law_1032 : decode cL_law 1032 = .ok (.ifCond .eq 5, 3) := by decide +kernel
theorem dL_law_1035 : decode cL_law 1035 = .ok (.iconst 0, 1) := by decide +kernel
theorem dL_law_1036 : decode cL_law 1036 = .ok (.ireturn, 1) := by decide +kernel
theorem dL_law_1037 : decode cL_law 1037 = .ok (.goto 420, 3) := by decide +kernel
theorem dL_law_1040 : decode cL_law 1040 = .ok (.aload_n 1, 1) := by decide +kernel
theorem dL_law_1041 : decode cL_law 1041 = .ok (.aload_n 0, 1) := by decide +kernel
theorem dL_law_1042 : decode cL_law 1042 = .ok (.iload 5, 2) := by decide +kernel
theorem dL_law_1044 : decode cL_law 1044 = .ok (.iconst 1, 1) := by decide +kernel
theorem dL_law_1045 : decode cL_law 1045 = .ok (.iadd, 1) := by decide +kernel
theorem dL_law_1046 : decode cL_law 1046 = .ok (.iaload, 1) := by decide +kernel
theorem dL_law_1047 : decode cL_law 1047 = .ok (.aload_n 0, 1) := by decide +kernel
theorem dL_law_1048 : decode cL_law 1048 = .ok (.iload 5, 2) := by decide +kernel
theorem dL_law_1050 : decode cL_law 1050 = .ok (.iconst 2, 1) := by decide +kernel
theorem dL_law_1051 : decode cL_law 1051 = .ok (.iadd, 1) := by decide +kernel
theorem dL_law_1052 : decode cL_law 1052 = .ok (.iaload, 1) := by decide +kernel
theorem dL_law_1053 : decode cL_law 1053 = .ok (.aload_n 3, 1) := by decide +kernel
theorem dL_law_1054 : decode cL_law 1054 = .ok (.invokestatic 154, 3) := by decide +kernel
theorem dL_law_1057 : decode cL_law 1057 = .ok (.istore 6, 2) := by decide +kernel
theorem dL_law_1059 : decode cL_law 1059 = .ok (.aload_n 2, 1) := by decide +kernel
theorem dL_law_1060 : decode cL_law 1060 = .ok (.aload_n 0, 1) := by decide +kernel
theorem dL_law_1061 : decode cL_law 1061 = .ok (.iload 5, 2) := by decide +kernel
theorem dL_law_1063 : decode cL_law 1063 = .ok (.iconst 1, 1) := by decide +kernel
theorem dL_law_1064 : decode cL_law 1064 = .ok (.iadd, 1) := by decide +kernel
theorem dL_law_1065 : decode cL_law 1065 = .ok (.iaload, 1) := by decide +kernel
theorem dL_law_1066 : decode cL_law 1066 = .ok (.aload_n 0, 1) := by decide +kernel
theorem dL_law_1067 : decode cL_law 1067 = .ok (.iload 5, 2) := by decide +kernel
theorem dL_law_1069 : decode cL_law 1069 = .ok (.iconst 2, 1) := by decide +kernel
theorem dL_law_1070 : decode cL_law 1070 = .ok (.iadd, 1) := by decide +kernel
theorem dL_law_1071 : decode cL_law 1071 = .ok (.iaload, 1) := by decide +kernel
theorem dL_law_1072 : decode cL_law 1072 = .ok (.invokevirtual 156, 3) := by decide +kernel
theorem dL_law_1075 : decode cL_law 1075 = .ok (.istore 7, 2) := by decide +kernel
theorem dL_law_1077 : decode cL_law 1077 = .ok (.aload_n 2, 1) := by decide +kernel
theorem dL_law_1078 : decode cL_law 1078 = .ok (.invokevirtual 92, 3) := by decide +kernel
theorem dL_law_1081 : decode cL_law 1081 = .ok (.iload 6, 2) := by decide +kernel
theorem dL_law_1083 : decode cL_law 1083 = .ok (.if_icmp .eq 5, 3) := by decide +kernel
theorem dL_law_1086 : decode cL_law 1086 = .ok (.iconst 0, 1) := by decide +kernel
theorem dL_law_1087 : decode cL_law 1087 = .ok (.ireturn, 1) := by decide +kernel
theorem dL_law_1088 : decode cL_law 1088 = .ok (.iload 6, 2) := by decide +kernel
theorem dL_law_1090 : decode cL_law 1090 = .ok (.ifCond .ne 15, 3) := by decide +kernel
theorem dL_law_1093 : decode cL_law 1093 = .ok (.aload_n 3, 1) := by decide +kernel
theorem dL_law_1094 : decode cL_law 1094 = .ok (.iconst 0, 1) := by decide +kernel
theorem dL_law_1095 : decode cL_law 1095 = .ok (.laload, 1) := by decide +kernel
theorem dL_law_1096 : decode cL_law 1096 = .ok (.iload 7, 2) := by decide +kernel
theorem dL_law_1098 : decode cL_law 1098 = .ok (.i2l, 1) := by decide +kernel
theorem dL_law_1099 : decode cL_law 1099 = .ok (.lcmp, 1) := by decide +kernel
theorem dL_law_1100 : decode cL_law 1100 = .ok (.ifCond .eq 5, 3) := by decide +kernel
theorem dL_law_1103 : decode cL_law 1103 = .ok (.iconst 0, 1) := by decide +kernel
theorem dL_law_1104 : decode cL_law 1104 = .ok (.ireturn, 1) := by decide +kernel
theorem dL_law_1105 : decode cL_law 1105 = .ok (.goto 352, 3) := by decide +kernel
theorem dL_law_1108 : decode cL_law 1108 = .ok (.aload_n 1, 1) := by decide +kernel
theorem dL_law_1109 : decode cL_law 1109 = .ok (.aload_n 0, 1) := by decide +kernel
theorem dL_law_1110 : decode cL_law 1110 = .ok (.iload 5, 2) := by decide +kernel
theorem dL_law_1112 : decode cL_law 1112 = .ok (.iconst 1, 1) := by decide +kernel
theorem dL_law_1113 : decode cL_law 1113 = .ok (.iadd, 1) := by decide +kernel
theorem dL_law_1114 : decode cL_law 1114 = .ok (.iaload, 1) := by decide +kernel
theorem dL_law_1115 : decode cL_law 1115 = .ok (.aload_n 3, 1) := by decide +kernel
theorem dL_law_1116 : decode cL_law 1116 = .ok (.invokestatic 157, 3) := by decide +kernel
theorem dL_law_1119 : decode cL_law 1119 = .ok (.istore 6, 2) := by decide +kernel
theorem dL_law_1121 : decode cL_law 1121 = .ok (.aload_n 2, 1) := by decide +kernel
theorem dL_law_1122 : decode cL_law 1122 = .ok (.aload_n 0, 1) := by decide +kernel
theorem dL_law_1123 : decode cL_law 1123 = .ok (.iload 5, 2) := by decide +kernel
theorem dL_law_1125 : decode cL_law 1125 = .ok (.iconst 1, 1) := by decide +kernel
theorem dL_law_1126 : decode cL_law 1126 = .ok (.iadd, 1) := by decide +kernel
theorem dL_law_1127 : decode cL_law 1127 = .ok (.iaload, 1) := by decide +kernel
theorem dL_law_1128 : decode cL_law 1128 = .ok (.invokevirtual 159, 3) := by decide +kernel
theorem dL_law_1131 : decode cL_law 1131 = .ok (.istore 7, 2) := by decide +kernel
theorem dL_law_1133 : decode cL_law 1133 = .ok (.aload_n 2, 1) := by decide +kernel
theorem dL_law_1134 : decode cL_law 1134 = .ok (.invokevirtual 92, 3) := by decide +kernel
theorem dL_law_1137 : decode cL_law 1137 = .ok (.iload 6, 2) := by decide +kernel
theorem dL_law_1139 : decode cL_law 1139 = .ok (.if_icmp .eq 5, 3) := by decide +kernel
theorem dL_law_1142 : decode cL_law 1142 = .ok (.iconst 0, 1) := by decide +kernel
theorem dL_law_1143 : decode cL_law 1143 = .ok (.ireturn, 1) := by decide +kernel
theorem dL_law_1144 : decode cL_law 1144 = .ok (.iload 6, 2) := by decide +kernel
theorem dL_law_1146 : decode cL_law 1146 = .ok (.ifCond .ne 15, 3) := by decide +kernel
theorem dL_law_1149 : decode cL_law 1149 = .ok (.aload_n 3, 1) := by decide +kernel
theorem dL_law_1150 : decode cL_law 1150 = .ok (.iconst 0, 1) := by decide +kernel
theorem dL_law_1151 : decode cL_law 1151 = .ok (.laload, 1) := by decide +kernel
theorem dL_law_1152 : decode cL_law 1152 = .ok (.iload 7, 2) := by decide +kernel
theorem dL_law_1154 : decode cL_law 1154 = .ok (.i2l, 1) := by decide +kernel
theorem dL_law_1155 : decode cL_law 1155 = .ok (.lcmp, 1) := by decide +kernel
theorem dL_law_1156 : decode cL_law 1156 = .ok (.ifCond .eq 5, 3) := by decide +kernel
theorem dL_law_1159 : decode cL_law 1159 = .ok (.iconst 0, 1) := by decide +kernel
theorem dL_law_1160 : decode cL_law 1160 = .ok (.ireturn, 1) := by decide +kernel
theorem dL_law_1161 : decode cL_law 1161 = .ok (.goto 296, 3) := by decide +kernel
theorem dL_law_1164 : decode cL_law 1164 = .ok (.aload_n 1, 1) := by decide +kernel
theorem dL_law_1165 : decode cL_law 1165 = .ok (.aload_n 3, 1) := by decide +kernel
theorem dL_law_1166 : decode cL_law 1166 = .ok (.invokestatic 160, 3) := by decide +kernel
theorem dL_law_1169 : decode cL_law 1169 = .ok (.istore 6, 2) := by decide +kernel
theorem dL_law_1171 : decode cL_law 1171 = .ok (.aload_n 2, 1) := by decide +kernel
theorem dL_law_1172 : decode cL_law 1172 = .ok (.invokevirtual 162, 3) := by decide +kernel
theorem dL_law_1175 : decode cL_law 1175 = .ok (.istore 7, 2) := by decide +kernel
theorem dL_law_1177 : decode cL_law 1177 = .ok (.aload_n 2, 1) := by decide +kernel
theorem dL_law_1178 : decode cL_law 1178 = .ok (.invokevirtual 92, 3) := by decide +kernel
theorem dL_law_1181 : decode cL_law 1181 = .ok (.iload 6, 2) := by decide +kernel
theorem dL_law_1183 : decode cL_law 1183 = .ok (.if_icmp .eq 5, 3) := by decide +kernel
theorem dL_law_1186 : decode cL_law 1186 = .ok (.iconst 0, 1) := by decide +kernel
theorem dL_law_1187 : decode cL_law 1187 = .ok (.ireturn, 1) := by decide +kernel
theorem dL_law_1188 : decode cL_law 1188 = .ok (.iload 6, 2) := by decide +kernel
theorem dL_law_1190 : decode cL_law 1190 = .ok (.ifCond .ne 15, 3) := by decide +kernel
theorem dL_law_1193 : decode cL_law 1193 = .ok (.aload_n 3, 1) := by decide +kernel
theorem dL_law_1194 : decode cL_law 1194 = .ok (.iconst 0, 1) := by decide +kernel
theorem dL_law_1195 : decode cL_law 1195 = .ok (.laload, 1) := by decide +kernel
theorem dL_law_1196 : decode cL_law 1196 = .ok (.iload 7, 2) := by decide +kernel
theorem dL_law_1198 : decode cL_law 1198 = .ok (.i2l, 1) := by decide +kernel
theorem dL_law_1199 : decode cL_law 1199 = .ok (.lcmp, 1) := by decide +kernel
theorem dL_law_1200 : decode cL_law 1200 = .ok (.ifCond .eq 5, 3) := by decide +kernel
theorem dL_law_1203 : decode cL_law 1203 = .ok (.iconst 0, 1) := by decide +kernel
theorem dL_law_1204 : decode cL_law 1204 = .ok (.ireturn, 1) := by decide +kernel
theorem dL_law_1205 : decode cL_law 1205 = .ok (.goto 252, 3) := by decide +kernel
theorem dL_law_1208 : decode cL_law 1208 = .ok (.aload_n 1, 1) := by decide +kernel
theorem dL_law_1209 : decode cL_law 1209 = .ok (.aload_n 0, 1) := by decide +kernel
theorem dL_law_1210 : decode cL_law 1210 = .ok (.iload 5, 2) := by decide +kernel
theorem dL_law_1212 : decode cL_law 1212 = .ok (.iconst 1, 1) := by decide +kernel
theorem dL_law_1213 : decode cL_law 1213 = .ok (.iadd, 1) := by decide +kernel
theorem dL_law_1214 : decode cL_law 1214 = .ok (.iaload, 1) := by decide +kernel
theorem dL_law_1215 : decode cL_law 1215 = .ok (.aload_n 3, 1) := by decide +kernel
theorem dL_law_1216 : decode cL_law 1216 = .ok (.invokestatic 163, 3) := by decide +kernel
theorem dL_law_1219 : decode cL_law 1219 = .ok (.istore 6, 2) := by decide +kernel
theorem dL_law_1221 : decode cL_law 1221 = .ok (.aload_n 2, 1) := by decide +kernel
theorem dL_law_1222 : decode cL_law 1222 = .ok (.aload_n 0, 1) := by decide +kernel
theorem dL_law_1223 : decode cL_law 1223 = .ok (.iload 5, 2) := by decide +kernel
theorem dL_law_1225 : decode cL_law 1225 = .ok (.iconst 1, 1) := by decide +kernel
theorem dL_law_1226 : decode cL_law 1226 = .ok (.iadd, 1) := by decide +kernel
theorem dL_law_1227 : decode cL_law 1227 = .ok (.iaload, 1) := by decide +kernel
theorem dL_law_1228 : decode cL_law 1228 = .ok (.invokevirtual 165, 3) := by decide +kernel
theorem dL_law_1231 : decode cL_law 1231 = .ok (.istore 7, 2) := by decide +kernel
theorem dL_law_1233 : decode cL_law 1233 = .ok (.aload_n 2, 1) := by decide +kernel
theorem dL_law_1234 : decode cL_law 1234 = .ok (.invokevirtual 92, 3) := by decide +kernel
theorem dL_law_1237 : decode cL_law 1237 = .ok (.iload 6, 2) := by decide +kernel
theorem dL_law_1239 : decode cL_law 1239 = .ok (.if_icmp .eq 5, 3) := by decide +kernel
theorem dL_law_1242 : decode cL_law 1242 = .ok (.iconst 0, 1) := by decide +kernel
theorem dL_law_1243 : decode cL_law 1243 = .ok (.ireturn, 1) := by decide +kernel
theorem dL_law_1244 : decode cL_law 1244 = .ok (.iload 6, 2) := by decide +kernel
theorem dL_law_1246 : decode cL_law 1246 = .ok (.ifCond .ne 22, 3) := by decide +kernel
theorem dL_law_1249 : decode cL_law 1249 = .ok (.aload_n 3, 1) := by decide +kernel
theorem dL_law_1250 : decode cL_law 1250 = .ok (.iconst 0, 1) := by decide +kernel
theorem dL_law_1251 : decode cL_law 1251 = .ok (.laload, 1) := by decide +kernel
theorem dL_law_1252 : decode cL_law 1252 = .ok (.iload 7, 2) := by decide +kernel
theorem dL_law_1254 : decode cL_law 1254 = .ok (.ifCond .eq 7, 3) := by decide +kernel
theorem dL_law_1257 : decode cL_law 1257 = .ok (.lconst 1, 1) := by decide +kernel
theorem dL_law_1258 : decode cL_law 1258 = .ok (.goto 4, 3) := by decide +kernel
theorem dL_law_1261 : decode cL_law 1261 = .ok (.lconst 0, 1) := by decide +kernel
theorem dL_law_1262 : decode cL_law 1262 = .ok (.lcmp, 1) := by decide +kernel
theorem dL_law_1263 : decode cL_law 1263 = .ok (.ifCond .eq 5, 3) := by decide +kernel
theorem dL_law_1266 : decode cL_law 1266 = .ok (.iconst 0, 1) := by decide +kernel
theorem dL_law_1267 : decode cL_law 1267 = .ok (.ireturn, 1) := by decide +kernel
theorem dL_law_1268 : decode cL_law 1268 = .ok (.goto 189, 3) := by decide +kernel
theorem dL_law_1271 : decode cL_law 1271 = .ok (.aload_n 1, 1) := by decide +kernel
theorem dL_law_1272 : decode cL_law 1272 = .ok (.aload_n 3, 1) := by decide +kernel
theorem dL_law_1273 : decode cL_law 1273 = .ok (.invokestatic 166, 3) := by decide +kernel
theorem dL_law_1276 : decode cL_law 1276 = .ok (.istore 6, 2) := by decide +kernel
theorem dL_law_1278 : decode cL_law 1278 = .ok (.aload_n 2, 1) := by decide +kernel
theorem dL_law_1279 : decode cL_law 1279 = .ok (.invokevirtual 168, 3) := by decide +kernel
theorem dL_law_1282 : decode cL_law 1282 = .ok (.istore 7, 2) := by decide +kernel
theorem dL_law_1284 : decode cL_law 1284 = .ok (.aload_n 2, 1) := by decide +kernel
theorem dL_law_1285 : decode cL_law 1285 = .ok (.invokevirtual 92, 3) := by decide +kernel
theorem dL_law_1288 : decode cL_law 1288 = .ok (.iload 6, 2) := by decide +kernel
theorem dL_law_1290 : decode cL_law 1290 = .ok (.if_icmp .eq 5, 3) := by decide +kernel
theorem dL_law_1293 : decode cL_law 1293 = .ok (.iconst 0, 1) := by decide +kernel
theorem dL_law_1294 : decode cL_law 1294 = .ok (.ireturn, 1) := by decide +kernel
theorem dL_law_1295 : decode cL_law 1295 = .ok (.iload 6, 2) := by decide +kernel
theorem dL_law_1297 : decode cL_law 1297 = .ok (.ifCond .ne 22, 3) := by decide +kernel
theorem dL_law_1300 : decode cL_law 1300 = .ok (.aload_n 3, 1) := by decide +kernel
theorem dL_law_1301 : decode cL_law 1301 = .ok (.iconst 0, 1) := by decide +kernel
theorem dL_law_1302 : decode cL_law 1302 = .ok (.laload, 1) := by decide +kernel
theorem dL_law_1303 : decode cL_law 1303 = .ok (.iload 7, 2) := by decide +kernel
theorem dL_law_1305 : decode cL_law 1305 = .ok (.ifCond .eq 7, 3) := by decide +kernel
theorem dL_law_1308 : decode cL_law 1308 = .ok (.lconst 1, 1) := by decide +kernel
theorem dL_law_1309 : decode cL_law 1309 = .ok (.goto 4, 3) := by decide +kernel
theorem dL_law_1312 : decode cL_law 1312 = .ok (.lconst 0, 1) := by decide +kernel
theorem dL_law_1313 : decode cL_law 1313 = .ok (.lcmp, 1) := by decide +kernel
theorem dL_law_1314 : decode cL_law 1314 = .ok (.ifCond .eq 5, 3) := by decide +kernel
theorem dL_law_1317 : decode cL_law 1317 = .ok (.iconst 0, 1) := by decide +kernel
theorem dL_law_1318 : decode cL_law 1318 = .ok (.ireturn, 1) := by decide +kernel
theorem dL_law_1319 : decode cL_law 1319 = .ok (.goto 138, 3) := by decide +kernel
theorem dL_law_1322 : decode cL_law 1322 = .ok (.aload_n 1, 1) := by decide +kernel
theorem dL_law_1323 : decode cL_law 1323 = .ok (.aload 4, 2) := by decide +kernel
theorem dL_law_1325 : decode cL_law 1325 = .ok (.invokestatic 169, 3) := by decide +kernel
theorem dL_law_1328 : decode cL_law 1328 = .ok (.istore 6, 2) := by decide +kernel
theorem dL_law_1330 : decode cL_law 1330 = .ok (.aload_n 2, 1) := by decide +kernel
theorem dL_law_1331 : decode cL_law 1331 = .ok (.invokevirtual 172, 3) := by decide +kernel
theorem dL_law_1334 : decode cL_law 1334 = .ok (.dstore 7, 2) := by decide +kernel
theorem dL_law_1336 : decode cL_law 1336 = .ok (.aload_n 2, 1) := by decide +kernel
theorem dL_law_1337 : decode cL_law 1337 = .ok (.invokevirtual 92, 3) := by decide +kernel
theorem dL_law_1340 : decode cL_law 1340 = .ok (.iload 6, 2) := by decide +kernel
theorem dL_law_1342 : decode cL_law 1342 = .ok (.if_icmp .eq 5, 3) := by decide +kernel
theorem dL_law_1345 : decode cL_law 1345 = .ok (.iconst 0, 1) := by decide +kernel
theorem dL_law_1346 : decode cL_law 1346 = .ok (.ireturn, 1) := by decide +kernel
theorem dL_law_1347 : decode cL_law 1347 = .ok (.iload 6, 2) := by decide +kernel
theorem dL_law_1349 : decode cL_law 1349 = .ok (.ifCond .ne 35, 3) := by decide +kernel
theorem dL_law_1352 : decode cL_law 1352 = .ok (.aload 4, 2) := by decide +kernel
theorem dL_law_1354 : decode cL_law 1354 = .ok (.iconst 0, 1) := by decide +kernel
theorem dL_law_1355 : decode cL_law 1355 = .ok (.daload, 1) := by decide +kernel
theorem dL_law_1356 : decode cL_law 1356 = .ok (.dload 7, 2) := by decide +kernel
theorem dL_law_1358 : decode cL_law 1358 = .ok (.dcmp .l, 1) := by decide +kernel
theorem dL_law_1359 : decode cL_law 1359 = .ok (.ifCond .eq 25, 3) := by decide +kernel
theorem dL_law_1362 : decode cL_law 1362 = .ok (.aload 4, 2) := by decide +kernel
theorem dL_law_1364 : decode cL_law 1364 = .ok (.iconst 0, 1) := by decide +kernel
theorem dL_law_1365 : decode cL_law 1365 = .ok (.daload, 1) := by decide +kernel
theorem dL_law_1366 : decode cL_law 1366 = .ok (.aload 4, 2) := by decide +kernel
theorem dL_law_1368 : decode cL_law 1368 = .ok (.iconst 0, 1) := by decide +kernel
theorem dL_law_1369 : decode cL_law 1369 = .ok (.daload, 1) := by decide +kernel
theorem dL_law_1370 : decode cL_law 1370 = .ok (.dcmp .l, 1) := by decide +kernel
theorem dL_law_1371 : decode cL_law 1371 = .ok (.ifCond .eq 11, 3) := by decide +kernel
theorem dL_law_1374 : decode cL_law 1374 = .ok (.dload 7, 2) := by decide +kernel
theorem dL_law_1376 : decode cL_law 1376 = .ok (.dload 7, 2) := by decide +kernel
theorem dL_law_1378 : decode cL_law 1378 = .ok (.dcmp .l, 1) := by decide +kernel
theorem dL_law_1379 : decode cL_law 1379 = .ok (.ifCond .ne 5, 3) := by decide +kernel
theorem dL_law_1382 : decode cL_law 1382 = .ok (.iconst 0, 1) := by decide +kernel
theorem dL_law_1383 : decode cL_law 1383 = .ok (.ireturn, 1) := by decide +kernel
theorem dL_law_1384 : decode cL_law 1384 = .ok (.goto 73, 3) := by decide +kernel
theorem dL_law_1387 : decode cL_law 1387 = .ok (.aload_n 1, 1) := by decide +kernel
theorem dL_law_1388 : decode cL_law 1388 = .ok (.aload_n 0, 1) := by decide +kernel
theorem dL_law_1389 : decode cL_law 1389 = .ok (.iload 5, 2) := by decide +kernel
theorem dL_law_1391 : decode cL_law 1391 = .ok (.iconst 1, 1) := by decide +kernel
theorem dL_law_1392 : decode cL_law 1392 = .ok (.iadd, 1) := by decide +kernel
theorem dL_law_1393 : decode cL_law 1393 = .ok (.iaload, 1) := by decide +kernel
theorem dL_law_1394 : decode cL_law 1394 = .ok (.aload_n 3, 1) := by decide +kernel
theorem dL_law_1395 : decode cL_law 1395 = .ok (.invokestatic 173, 3) := by decide +kernel
theorem dL_law_1398 : decode cL_law 1398 = .ok (.istore 6, 2) := by decide +kernel
theorem dL_law_1400 : decode cL_law 1400 = .ok (.aload_n 2, 1) := by decide +kernel
theorem dL_law_1401 : decode cL_law 1401 = .ok (.aload_n 0, 1) := by decide +kernel
theorem dL_law_1402 : decode cL_law 1402 = .ok (.iload 5, 2) := by decide +kernel
theorem dL_law_1404 : decode cL_law 1404 = .ok (.iconst 1, 1) := by decide +kernel
theorem dL_law_1405 : decode cL_law 1405 = .ok (.iadd, 1) := by decide +kernel
theorem dL_law_1406 : decode cL_law 1406 = .ok (.iaload, 1) := by decide +kernel
theorem dL_law_1407 : decode cL_law 1407 = .ok (.invokevirtual 175, 3) := by decide +kernel
theorem dL_law_1410 : decode cL_law 1410 = .ok (.istore 7, 2) := by decide +kernel
theorem dL_law_1412 : decode cL_law 1412 = .ok (.aload_n 2, 1) := by decide +kernel
theorem dL_law_1413 : decode cL_law 1413 = .ok (.invokevirtual 92, 3) := by decide +kernel
theorem dL_law_1416 : decode cL_law 1416 = .ok (.iload 6, 2) := by decide +kernel
theorem dL_law_1418 : decode cL_law 1418 = .ok (.if_icmp .eq 5, 3) := by decide +kernel
theorem dL_law_1421 : decode cL_law 1421 = .ok (.iconst 0, 1) := by decide +kernel
theorem dL_law_1422 : decode cL_law 1422 = .ok (.ireturn, 1) := by decide +kernel
theorem dL_law_1423 : decode cL_law 1423 = .ok (.iload 6, 2) := by decide +kernel
theorem dL_law_1425 : decode cL_law 1425 = .ok (.ifCond .ne 15, 3) := by decide +kernel
theorem dL_law_1428 : decode cL_law 1428 = .ok (.aload_n 3, 1) := by decide +kernel
theorem dL_law_1429 : decode cL_law 1429 = .ok (.iconst 0, 1) := by decide +kernel
theorem dL_law_1430 : decode cL_law 1430 = .ok (.laload, 1) := by decide +kernel
theorem dL_law_1431 : decode cL_law 1431 = .ok (.iload 7, 2) := by decide +kernel
theorem dL_law_1433 : decode cL_law 1433 = .ok (.i2l, 1) := by decide +kernel
theorem dL_law_1434 : decode cL_law 1434 = .ok (.lcmp, 1) := by decide +kernel
theorem dL_law_1435 : decode cL_law 1435 = .ok (.ifCond .eq 5, 3) := by decide +kernel
theorem dL_law_1438 : decode cL_law 1438 = .ok (.iconst 0, 1) := by decide +kernel
theorem dL_law_1439 : decode cL_law 1439 = .ok (.ireturn, 1) := by decide +kernel
theorem dL_law_1440 : decode cL_law 1440 = .ok (.goto 17, 3) := by decide +kernel
theorem dL_law_1443 : decode cL_law 1443 = .ok (.aload_n 1, 1) := by decide +kernel
theorem dL_law_1444 : decode cL_law 1444 = .ok (.invokevirtual 176, 3) := by decide +kernel
theorem dL_law_1447 : decode cL_law 1447 = .ok (.aload_n 2, 1) := by decide +kernel
theorem dL_law_1448 : decode cL_law 1448 = .ok (.invokevirtual 180, 3) := by decide +kernel
theorem dL_law_1451 : decode cL_law 1451 = .ok (.lcmp, 1) := by decide +kernel
theorem dL_law_1452 : decode cL_law 1452 = .ok (.ifCond .eq 5, 3) := by decide +kernel
theorem dL_law_1455 : decode cL_law 1455 = .ok (.iconst 0, 1) := by decide +kernel
theorem dL_law_1456 : decode cL_law 1456 = .ok (.ireturn, 1) := by decide +kernel
theorem dL_law_1457 : decode cL_law 1457 = .ok (.iinc 5 3, 3) := by decide +kernel
theorem dL_law_1460 : decode cL_law 1460 = .ok (.goto (-1432), 3) := by decide +kernel
theorem dL_law_1463 : decode cL_law 1463 = .ok (.iconst 1, 1) := by decide +kernel
theorem dL_law_1464 : decode cL_law 1464 = .ok (.ireturn, 1) := by decide +kernel
end
section
def wG : List Cond := lw_tbl.filter goodWord
theorem wG_sub : ∀ w ∈ wG, w ∈ lw_tbl := fun _ h => (List.mem_filter.mp h).1
theorem wG_ok : ∀ w ∈ wG, (w.onTables && w.keeps) = true ∨ ∃ ty, w = .arrayClass ty := fun _ h => good_of_word (List.mem_filter.mp h).2
theorem wGm {w : Cond} (i : Nat) (h : tables_1[i]? = some w) (hg : goodWord w = true) : w ∈ wG := List.mem_filter.mpr ⟨List.mem_append_right _ (List.mem_of_getElem? h), hg⟩
theorem wGs {w : Cond} (i : Nat) (h : (k2_sels lw_privs)[i]? = some w) (hg : goodWord w = true) : w ∈ wG := List.mem_filter.mpr ⟨List.mem_append_left _ (List.mem_of_getElem? h), hg⟩
theorem q0 : (Jvm.Cond.initialized "ProcessMinerLaw" : Cond) ∈ wG := wGm 0 (by decide +kernel) (by decide +kernel)
theorem q1 : (Jvm.Cond.initialized "ProcessMiner" : Cond) ∈ wG := wGm 1 (by decide +kernel) (by decide +kernel)
theorem q2 : (Jvm.Cond.initialized "ProcessMiner$Tree" : Cond) ∈ wG := wGm 2 (by decide +kernel) (by decide +kernel)
theorem q3 : (Jvm.Cond.initialized "ProcessMiner$Matcher" : Cond) ∈ wG := wGm 3 (by decide +kernel) (by decide +kernel)
theorem q4 : (Jvm.Cond.initialized "ProcessMiner$Log" : Cond) ∈ wG := wGm 4 (by decide +kernel) (by decide +kernel)
theorem q5 : (Jvm.Cond.initialized "ProcessMinerModel" : Cond) ∈ wG := wGm 5 (by decide +kernel) (by decide +kernel)
theorem q6 : (Jvm.Cond.initialized "java/lang/Throwable" : Cond) ∈ wG := wGm 6 (by decide +kernel) (by decide +kernel)
theorem q7 : (Jvm.Cond.initialized "java/lang/Exception" : Cond) ∈ wG := wGm 7 (by decide +kernel) (by decide +kernel)
theorem q8 : (Jvm.Cond.initialized "java/lang/RuntimeException" : Cond) ∈ wG := wGm 8 (by decide +kernel) (by decide +kernel)
theorem q9 : (Jvm.Cond.initialized "java/lang/IndexOutOfBoundsException" : Cond) ∈ wG := wGm 9 (by decide +kernel) (by decide +kernel)
theorem q10 : (Jvm.Cond.initialized "java/lang/IllegalStateException" : Cond) ∈ wG := wGm 10 (by decide +kernel) (by decide +kernel)
theorem q11 : (Jvm.Cond.initialized "java/lang/IllegalArgumentException" : Cond) ∈ wG := wGm 11 (by decide +kernel) (by decide +kernel)
theorem q12 : (Jvm.Cond.initialized "java/lang/Integer" : Cond) ∈ wG := wGm 12 (by decide +kernel) (by decide +kernel)
theorem q13 : (Jvm.Cond.initialized "java/lang/System" : Cond) ∈ wG := wGm 13 (by decide +kernel) (by decide +kernel)
theorem q14 : (Jvm.Cond.initialized "java/lang/Math" : Cond) ∈ wG := wGm 14 (by decide +kernel) (by decide +kernel)
theorem q15 : (Jvm.Cond.classLink "ProcessMinerLaw" (8 : Nat) "ProcessMiner" : Cond) ∈ wG := wGm 15 (by decide +kernel) (by decide +kernel)
theorem q16 : (Jvm.Cond.instantiable "ProcessMiner" (10 : Nat) : Cond) ∈ wG := wGm 16 (by decide +kernel) (by decide +kernel)
theorem q17 : (Jvm.Cond.methodLink "ProcessMinerLaw" (82 : Nat) ({ cls := "ProcessMiner", name := "<init>", desc := "()V" } : Jvm.MethodName) : Cond) ∈ wG := wGm 17 (by decide +kernel) (by decide +kernel)
theorem q18 : (Jvm.Cond.instanceMethod ({ cls := "ProcessMiner", name := "<init>", desc := "()V" } : Jvm.MethodName) : Cond) ∈ wG := wGm 18 (by decide +kernel) (by decide +kernel)
theorem q19 : (Jvm.Cond.code ({ cls := "ProcessMiner", name := "<init>", desc := "()V" } : Jvm.MethodName) prog_1_method_1_code (2 : Nat) (Option.none : Option Jvm.ClassFile.FieldType) : Cond) ∈ wG := wGm 19 (by decide +kernel) (by decide +kernel)
theorem q20 : (Jvm.Cond.methodLink "ProcessMiner" (3 : Nat) ({ cls := "java/lang/Object", name := "<init>", desc := "()V" } : Jvm.MethodName) : Cond) ∈ wG := wGm 20 (by decide +kernel) (by decide +kernel)
theorem q21 : (Jvm.Cond.instanceMethod ({ cls := "java/lang/Object", name := "<init>", desc := "()V" } : Jvm.MethodName) : Cond) ∈ wG := wGm 21 (by decide +kernel) (by decide +kernel)
theorem q22 : (Jvm.Cond.code ({ cls := "java/lang/Object", name := "<init>", desc := "()V" } : Jvm.MethodName) object_method_1_code (1 : Nat) (Option.none : Option Jvm.ClassFile.FieldType) : Cond) ∈ wG := wGm 22 (by decide +kernel) (by decide +kernel)
theorem q23 : (Jvm.Cond.classLink "ProcessMiner" (29 : Nat) "ProcessMiner$Log" : Cond) ∈ wG := wGm 23 (by decide +kernel) (by decide +kernel)
theorem q25 : (Jvm.Cond.classLink "ProcessMiner" (35 : Nat) "ProcessMiner$Tree" : Cond) ∈ wG := wGm 25 (by decide +kernel) (by decide +kernel)
theorem q26 : (Jvm.Cond.instantiable "ProcessMiner$Tree" (7 : Nat) : Cond) ∈ wG := wGm 26 (by decide +kernel) (by decide +kernel)
theorem q28 : (Jvm.Cond.instanceMethod ({ cls := "ProcessMiner$Tree", name := "<init>", desc := "()V" } : Jvm.MethodName) : Cond) ∈ wG := wGm 28 (by decide +kernel) (by decide +kernel)
theorem q29 : (Jvm.Cond.code ({ cls := "ProcessMiner$Tree", name := "<init>", desc := "()V" } : Jvm.MethodName) prog_4_method_1_code (1 : Nat) (Option.none : Option Jvm.ClassFile.FieldType) : Cond) ∈ wG := wGm 29 (by decide +kernel) (by decide +kernel)
theorem q30 : (Jvm.Cond.methodLink "ProcessMiner$Tree" (3 : Nat) ({ cls := "java/lang/Object", name := "<init>", desc := "()V" } : Jvm.MethodName) : Cond) ∈ wG := wGm 30 (by decide +kernel) (by decide +kernel)
theorem q31 : (Jvm.Cond.fieldLink "ProcessMiner$Tree" (9 : Nat) "ProcessMiner$Tree" "kinds" "[I" : Cond) ∈ wG := wGm 31 (by decide +kernel) (by decide +kernel)
theorem q32 : (Jvm.Cond.fieldLink "ProcessMiner$Matcher" (54 : Nat) "ProcessMiner$Tree" "kinds" "[I" : Cond) ∈ wG := wGm 32 (by decide +kernel) (by decide +kernel)
theorem q33 : (Jvm.Cond.fieldLink "ProcessMiner" (126 : Nat) "ProcessMiner$Tree" "kinds" "[I" : Cond) ∈ wG := wGm 33 (by decide +kernel) (by decide +kernel)
theorem q34 : (Jvm.Cond.fieldLink "ProcessMiner$Tree" (15 : Nat) "ProcessMiner$Tree" "sets" "[I" : Cond) ∈ wG := wGm 34 (by decide +kernel) (by decide +kernel)
theorem q35 : (Jvm.Cond.fieldLink "ProcessMiner$Matcher" (26 : Nat) "ProcessMiner$Tree" "sets" "[I" : Cond) ∈ wG := wGm 35 (by decide +kernel) (by decide +kernel)
theorem q36 : (Jvm.Cond.fieldLink "ProcessMiner" (129 : Nat) "ProcessMiner$Tree" "sets" "[I" : Cond) ∈ wG := wGm 36 (by decide +kernel) (by decide +kernel)
theorem q37 : (Jvm.Cond.fieldLink "ProcessMiner$Tree" (18 : Nat) "ProcessMiner$Tree" "parents" "[I" : Cond) ∈ wG := wGm 37 (by decide +kernel) (by decide +kernel)
theorem q38 : (Jvm.Cond.fieldLink "ProcessMiner" (132 : Nat) "ProcessMiner$Tree" "parents" "[I" : Cond) ∈ wG := wGm 38 (by decide +kernel) (by decide +kernel)
theorem q39 : (Jvm.Cond.fieldLink "ProcessMiner$Tree" (21 : Nat) "ProcessMiner$Tree" "childCounts" "[I" : Cond) ∈ wG := wGm 39 (by decide +kernel) (by decide +kernel)
theorem q40 : (Jvm.Cond.fieldLink "ProcessMiner$Matcher" (77 : Nat) "ProcessMiner$Tree" "childCounts" "[I" : Cond) ∈ wG := wGm 40 (by decide +kernel) (by decide +kernel)
theorem q41 : (Jvm.Cond.fieldLink "ProcessMiner" (135 : Nat) "ProcessMiner$Tree" "childCounts" "[I" : Cond) ∈ wG := wGm 41 (by decide +kernel) (by decide +kernel)
theorem q42 : (Jvm.Cond.fieldLink "ProcessMiner$Tree" (24 : Nat) "ProcessMiner$Tree" "childNodes" "[I" : Cond) ∈ wG := wGm 42 (by decide +kernel) (by decide +kernel)
theorem q43 : (Jvm.Cond.fieldLink "ProcessMiner$Tree" (27 : Nat) "ProcessMiner$Tree" "sums" "[I" : Cond) ∈ wG := wGm 43 (by decide +kernel) (by decide +kernel)
theorem q44 : (Jvm.Cond.fieldLink "ProcessMiner$Tree" (30 : Nat) "ProcessMiner$Tree" "size" "I" : Cond) ∈ wG := wGm 44 (by decide +kernel) (by decide +kernel)
theorem q45 : (Jvm.Cond.fieldLink "ProcessMiner$Matcher" (47 : Nat) "ProcessMiner$Tree" "size" "I" : Cond) ∈ wG := wGm 45 (by decide +kernel) (by decide +kernel)
theorem q46 : (Jvm.Cond.fieldLink "ProcessMiner" (116 : Nat) "ProcessMiner$Tree" "size" "I" : Cond) ∈ wG := wGm 46 (by decide +kernel) (by decide +kernel)
theorem q47 : (Jvm.Cond.laysFinal "ProcessMiner$Tree" "ProcessMiner$Tree" "kinds" "[I" : Cond) ∈ wG := wGm 47 (by decide +kernel) (by decide +kernel)
theorem q48 : (Jvm.Cond.soleField "ProcessMiner$Tree" "kinds" : Cond) ∈ wG := wGm 48 (by decide +kernel) (by decide +kernel)
theorem q49 : (Jvm.Cond.laysFinal "ProcessMiner$Tree" "ProcessMiner$Tree" "sets" "[I" : Cond) ∈ wG := wGm 49 (by decide +kernel) (by decide +kernel)
theorem q50 : (Jvm.Cond.soleField "ProcessMiner$Tree" "sets" : Cond) ∈ wG := wGm 50 (by decide +kernel) (by decide +kernel)
theorem q51 : (Jvm.Cond.laysFinal "ProcessMiner$Tree" "ProcessMiner$Tree" "parents" "[I" : Cond) ∈ wG := wGm 51 (by decide +kernel) (by decide +kernel)
theorem q52 : (Jvm.Cond.soleField "ProcessMiner$Tree" "parents" : Cond) ∈ wG := wGm 52 (by decide +kernel) (by decide +kernel)
theorem q53 : (Jvm.Cond.laysFinal "ProcessMiner$Tree" "ProcessMiner$Tree" "childCounts" "[I" : Cond) ∈ wG := wGm 53 (by decide +kernel) (by decide +kernel)
theorem q54 : (Jvm.Cond.soleField "ProcessMiner$Tree" "childCounts" : Cond) ∈ wG := wGm 54 (by decide +kernel) (by decide +kernel)
theorem q55 : (Jvm.Cond.laysFinal "ProcessMiner$Tree" "ProcessMiner$Tree" "childNodes" "[I" : Cond) ∈ wG := wGm 55 (by decide +kernel) (by decide +kernel)
theorem q56 : (Jvm.Cond.soleField "ProcessMiner$Tree" "childNodes" : Cond) ∈ wG := wGm 56 (by decide +kernel) (by decide +kernel)
theorem q57 : (Jvm.Cond.laysFinal "ProcessMiner$Tree" "ProcessMiner$Tree" "sums" "[I" : Cond) ∈ wG := wGm 57 (by decide +kernel) (by decide +kernel)
theorem q58 : (Jvm.Cond.soleField "ProcessMiner$Tree" "sums" : Cond) ∈ wG := wGm 58 (by decide +kernel) (by decide +kernel)
theorem q59 : (Jvm.Cond.lays "ProcessMiner$Tree" "ProcessMiner$Tree" "size" "I" : Cond) ∈ wG := wGm 59 (by decide +kernel) (by decide +kernel)
theorem q60 : (Jvm.Cond.soleField "ProcessMiner$Tree" "size" : Cond) ∈ wG := wGm 60 (by decide +kernel) (by decide +kernel)
theorem q61 : (Jvm.Cond.superclass "ProcessMiner$Tree" "java/lang/Object" : Cond) ∈ wG := wGm 61 (by decide +kernel) (by decide +kernel)
theorem q62 : (Jvm.Cond.arrayClass Jvm.ClassFile.FieldType.int : Cond) ∈ wG := wGm 62 (by decide +kernel) (by decide +kernel)
theorem q63 : (Jvm.Cond.classLink "ProcessMiner" (42 : Nat) "ProcessMiner$Matcher" : Cond) ∈ wG := wGm 63 (by decide +kernel) (by decide +kernel)
theorem q64 : (Jvm.Cond.instantiable "ProcessMiner$Matcher" (4 : Nat) : Cond) ∈ wG := wGm 64 (by decide +kernel) (by decide +kernel)
theorem q65 : (Jvm.Cond.methodLink "ProcessMiner" (44 : Nat) ({ cls := "ProcessMiner$Matcher", name := "<init>", desc := "(LProcessMiner$Tree;)V" } : Jvm.MethodName) : Cond) ∈ wG := wGm 65 (by decide +kernel) (by decide +kernel)
theorem q66 : (Jvm.Cond.instanceMethod ({ cls := "ProcessMiner$Matcher", name := "<init>", desc := "(LProcessMiner$Tree;)V" } : Jvm.MethodName) : Cond) ∈ wG := wGm 66 (by decide +kernel) (by decide +kernel)
theorem q67 : (Jvm.Cond.code ({ cls := "ProcessMiner$Matcher", name := "<init>", desc := "(LProcessMiner$Tree;)V" } : Jvm.MethodName) prog_3_method_1_code (2 : Nat) (Option.none : Option Jvm.ClassFile.FieldType) : Cond) ∈ wG := wGm 67 (by decide +kernel) (by decide +kernel)
theorem q68 : (Jvm.Cond.methodLink "ProcessMiner$Matcher" (3 : Nat) ({ cls := "java/lang/Object", name := "<init>", desc := "()V" } : Jvm.MethodName) : Cond) ∈ wG := wGm 68 (by decide +kernel) (by decide +kernel)
theorem q69 : (Jvm.Cond.fieldLink "ProcessMiner$Matcher" (22 : Nat) "ProcessMiner$Matcher" "tree" "LProcessMiner$Tree;" : Cond) ∈ wG := wGm 69 (by decide +kernel) (by decide +kernel)
theorem q70 : (Jvm.Cond.fieldLink "ProcessMiner$Matcher" (9 : Nat) "ProcessMiner$Matcher" "word" "[I" : Cond) ∈ wG := wGm 70 (by decide +kernel) (by decide +kernel)
theorem q71 : (Jvm.Cond.fieldLink "ProcessMiner$Matcher" (15 : Nat) "ProcessMiner$Matcher" "wordLength" "I" : Cond) ∈ wG := wGm 71 (by decide +kernel) (by decide +kernel)
theorem q72 : (Jvm.Cond.fieldLink "ProcessMiner$Matcher" (19 : Nat) "ProcessMiner$Matcher" "ends" "[I" : Cond) ∈ wG := wGm 72 (by decide +kernel) (by decide +kernel)
theorem q73 : (Jvm.Cond.laysFinal "ProcessMiner$Matcher" "ProcessMiner$Matcher" "tree" "LProcessMiner$Tree;" : Cond) ∈ wG := wGm 73 (by decide +kernel) (by decide +kernel)
theorem q74 : (Jvm.Cond.soleField "ProcessMiner$Matcher" "tree" : Cond) ∈ wG := wGm 74 (by decide +kernel) (by decide +kernel)
theorem q75 : (Jvm.Cond.laysFinal "ProcessMiner$Matcher" "ProcessMiner$Matcher" "word" "[I" : Cond) ∈ wG := wGm 75 (by decide +kernel) (by decide +kernel)
theorem q76 : (Jvm.Cond.soleField "ProcessMiner$Matcher" "word" : Cond) ∈ wG := wGm 76 (by decide +kernel) (by decide +kernel)
theorem q77 : (Jvm.Cond.lays "ProcessMiner$Matcher" "ProcessMiner$Matcher" "wordLength" "I" : Cond) ∈ wG := wGm 77 (by decide +kernel) (by decide +kernel)
theorem q78 : (Jvm.Cond.soleField "ProcessMiner$Matcher" "wordLength" : Cond) ∈ wG := wGm 78 (by decide +kernel) (by decide +kernel)
theorem q79 : (Jvm.Cond.laysFinal "ProcessMiner$Matcher" "ProcessMiner$Matcher" "ends" "[I" : Cond) ∈ wG := wGm 79 (by decide +kernel) (by decide +kernel)
theorem q80 : (Jvm.Cond.soleField "ProcessMiner$Matcher" "ends" : Cond) ∈ wG := wGm 80 (by decide +kernel) (by decide +kernel)
theorem q81 : (Jvm.Cond.superclass "ProcessMiner$Matcher" "java/lang/Object" : Cond) ∈ wG := wGm 81 (by decide +kernel) (by decide +kernel)
theorem q82 : (Jvm.Cond.instantiable "ProcessMiner$Log" (13 : Nat) : Cond) ∈ wG := wGm 82 (by decide +kernel) (by decide +kernel)
theorem q84 : (Jvm.Cond.instanceMethod ({ cls := "ProcessMiner$Log", name := "<init>", desc := "()V" } : Jvm.MethodName) : Cond) ∈ wG := wGm 84 (by decide +kernel) (by decide +kernel)
theorem q85 : (Jvm.Cond.code ({ cls := "ProcessMiner$Log", name := "<init>", desc := "()V" } : Jvm.MethodName) prog_2_method_1_code (1 : Nat) (Option.none : Option Jvm.ClassFile.FieldType) : Cond) ∈ wG := wGm 85 (by decide +kernel) (by decide +kernel)
theorem q86 : (Jvm.Cond.methodLink "ProcessMiner$Log" (3 : Nat) ({ cls := "java/lang/Object", name := "<init>", desc := "()V" } : Jvm.MethodName) : Cond) ∈ wG := wGm 86 (by decide +kernel) (by decide +kernel)
theorem q87 : (Jvm.Cond.fieldLink "ProcessMiner$Log" (9 : Nat) "ProcessMiner$Log" "events" "[I" : Cond) ∈ wG := wGm 87 (by decide +kernel) (by decide +kernel)
theorem q88 : (Jvm.Cond.fieldLink "ProcessMiner$Log" (15 : Nat) "ProcessMiner$Log" "ends" "[I" : Cond) ∈ wG := wGm 88 (by decide +kernel) (by decide +kernel)
theorem q89 : (Jvm.Cond.fieldLink "ProcessMiner$Log" (18 : Nat) "ProcessMiner$Log" "size" "I" : Cond) ∈ wG := wGm 89 (by decide +kernel) (by decide +kernel)
theorem q90 : (Jvm.Cond.fieldLink "ProcessMiner$Log" (22 : Nat) "ProcessMiner$Log" "traces" "I" : Cond) ∈ wG := wGm 90 (by decide +kernel) (by decide +kernel)
theorem q91 : (Jvm.Cond.fieldLink "ProcessMiner$Log" (25 : Nat) "ProcessMiner$Log" "used" "I" : Cond) ∈ wG := wGm 91 (by decide +kernel) (by decide +kernel)
theorem q92 : (Jvm.Cond.fieldLink "ProcessMiner" (86 : Nat) "ProcessMiner$Log" "used" "I" : Cond) ∈ wG := wGm 92 (by decide +kernel) (by decide +kernel)
theorem q93 : (Jvm.Cond.fieldLink "ProcessMiner$Log" (28 : Nat) "ProcessMiner$Log" "beginning" "I" : Cond) ∈ wG := wGm 93 (by decide +kernel) (by decide +kernel)
theorem q94 : (Jvm.Cond.fieldLink "ProcessMiner" (96 : Nat) "ProcessMiner$Log" "beginning" "I" : Cond) ∈ wG := wGm 94 (by decide +kernel) (by decide +kernel)
theorem q95 : (Jvm.Cond.fieldLink "ProcessMiner$Log" (31 : Nat) "ProcessMiner$Log" "ending" "I" : Cond) ∈ wG := wGm 95 (by decide +kernel) (by decide +kernel)
theorem q96 : (Jvm.Cond.fieldLink "ProcessMiner" (93 : Nat) "ProcessMiner$Log" "ending" "I" : Cond) ∈ wG := wGm 96 (by decide +kernel) (by decide +kernel)
theorem q97 : (Jvm.Cond.fieldLink "ProcessMiner$Log" (34 : Nat) "ProcessMiner$Log" "hasEmpty" "Z" : Cond) ∈ wG := wGm 97 (by decide +kernel) (by decide +kernel)
theorem q98 : (Jvm.Cond.fieldLink "ProcessMiner" (210 : Nat) "ProcessMiner$Log" "hasEmpty" "Z" : Cond) ∈ wG := wGm 98 (by decide +kernel) (by decide +kernel)
theorem q99 : (Jvm.Cond.fieldLink "ProcessMiner$Log" (38 : Nat) "ProcessMiner$Log" "next" "[I" : Cond) ∈ wG := wGm 99 (by decide +kernel) (by decide +kernel)
theorem q100 : (Jvm.Cond.fieldLink "ProcessMiner" (99 : Nat) "ProcessMiner$Log" "next" "[I" : Cond) ∈ wG := wGm 100 (by decide +kernel) (by decide +kernel)
theorem q101 : (Jvm.Cond.fieldLink "ProcessMiner$Log" (41 : Nat) "ProcessMiner$Log" "reach" "[I" : Cond) ∈ wG := wGm 101 (by decide +kernel) (by decide +kernel)
theorem q102 : (Jvm.Cond.fieldLink "ProcessMiner" (109 : Nat) "ProcessMiner$Log" "reach" "[I" : Cond) ∈ wG := wGm 102 (by decide +kernel) (by decide +kernel)
theorem q103 : (Jvm.Cond.fieldLink "ProcessMiner$Log" (44 : Nat) "ProcessMiner$Log" "near" "[I" : Cond) ∈ wG := wGm 103 (by decide +kernel) (by decide +kernel)
theorem q104 : (Jvm.Cond.fieldLink "ProcessMiner$Log" (47 : Nat) "ProcessMiner$Log" "parts" "[I" : Cond) ∈ wG := wGm 104 (by decide +kernel) (by decide +kernel)
theorem q105 : (Jvm.Cond.fieldLink "ProcessMiner" (216 : Nat) "ProcessMiner$Log" "parts" "[I" : Cond) ∈ wG := wGm 105 (by decide +kernel) (by decide +kernel)
theorem q106 : (Jvm.Cond.fieldLink "ProcessMiner$Log" (50 : Nat) "ProcessMiner$Log" "partCount" "I" : Cond) ∈ wG := wGm 106 (by decide +kernel) (by decide +kernel)
theorem q107 : (Jvm.Cond.fieldLink "ProcessMiner" (213 : Nat) "ProcessMiner$Log" "partCount" "I" : Cond) ∈ wG := wGm 107 (by decide +kernel) (by decide +kernel)
theorem q108 : (Jvm.Cond.laysFinal "ProcessMiner$Log" "ProcessMiner$Log" "events" "[I" : Cond) ∈ wG := wGm 108 (by decide +kernel) (by decide +kernel)
theorem q109 : (Jvm.Cond.soleField "ProcessMiner$Log" "events" : Cond) ∈ wG := wGm 109 (by decide +kernel) (by decide +kernel)
theorem q110 : (Jvm.Cond.laysFinal "ProcessMiner$Log" "ProcessMiner$Log" "ends" "[I" : Cond) ∈ wG := wGm 110 (by decide +kernel) (by decide +kernel)
theorem q111 : (Jvm.Cond.soleField "ProcessMiner$Log" "ends" : Cond) ∈ wG := wGm 111 (by decide +kernel) (by decide +kernel)
theorem q112 : (Jvm.Cond.lays "ProcessMiner$Log" "ProcessMiner$Log" "size" "I" : Cond) ∈ wG := wGm 112 (by decide +kernel) (by decide +kernel)
theorem q113 : (Jvm.Cond.soleField "ProcessMiner$Log" "size" : Cond) ∈ wG := wGm 113 (by decide +kernel) (by decide +kernel)
theorem q114 : (Jvm.Cond.lays "ProcessMiner$Log" "ProcessMiner$Log" "traces" "I" : Cond) ∈ wG := wGm 114 (by decide +kernel) (by decide +kernel)
theorem q115 : (Jvm.Cond.soleField "ProcessMiner$Log" "traces" : Cond) ∈ wG := wGm 115 (by decide +kernel) (by decide +kernel)
theorem q116 : (Jvm.Cond.lays "ProcessMiner$Log" "ProcessMiner$Log" "used" "I" : Cond) ∈ wG := wGm 116 (by decide +kernel) (by decide +kernel)
theorem q117 : (Jvm.Cond.soleField "ProcessMiner$Log" "used" : Cond) ∈ wG := wGm 117 (by decide +kernel) (by decide +kernel)
theorem q118 : (Jvm.Cond.lays "ProcessMiner$Log" "ProcessMiner$Log" "beginning" "I" : Cond) ∈ wG := wGm 118 (by decide +kernel) (by decide +kernel)
theorem q119 : (Jvm.Cond.soleField "ProcessMiner$Log" "beginning" : Cond) ∈ wG := wGm 119 (by decide +kernel) (by decide +kernel)
theorem q120 : (Jvm.Cond.lays "ProcessMiner$Log" "ProcessMiner$Log" "ending" "I" : Cond) ∈ wG := wGm 120 (by decide +kernel) (by decide +kernel)
theorem q121 : (Jvm.Cond.soleField "ProcessMiner$Log" "ending" : Cond) ∈ wG := wGm 121 (by decide +kernel) (by decide +kernel)
theorem q122 : (Jvm.Cond.lays "ProcessMiner$Log" "ProcessMiner$Log" "hasEmpty" "Z" : Cond) ∈ wG := wGm 122 (by decide +kernel) (by decide +kernel)
theorem q123 : (Jvm.Cond.soleField "ProcessMiner$Log" "hasEmpty" : Cond) ∈ wG := wGm 123 (by decide +kernel) (by decide +kernel)
theorem q124 : (Jvm.Cond.laysFinal "ProcessMiner$Log" "ProcessMiner$Log" "next" "[I" : Cond) ∈ wG := wGm 124 (by decide +kernel) (by decide +kernel)
theorem q125 : (Jvm.Cond.soleField "ProcessMiner$Log" "next" : Cond) ∈ wG := wGm 125 (by decide +kernel) (by decide +kernel)
theorem q126 : (Jvm.Cond.laysFinal "ProcessMiner$Log" "ProcessMiner$Log" "reach" "[I" : Cond) ∈ wG := wGm 126 (by decide +kernel) (by decide +kernel)
theorem q127 : (Jvm.Cond.soleField "ProcessMiner$Log" "reach" : Cond) ∈ wG := wGm 127 (by decide +kernel) (by decide +kernel)
theorem q128 : (Jvm.Cond.laysFinal "ProcessMiner$Log" "ProcessMiner$Log" "near" "[I" : Cond) ∈ wG := wGm 128 (by decide +kernel) (by decide +kernel)
theorem q129 : (Jvm.Cond.soleField "ProcessMiner$Log" "near" : Cond) ∈ wG := wGm 129 (by decide +kernel) (by decide +kernel)
theorem q130 : (Jvm.Cond.laysFinal "ProcessMiner$Log" "ProcessMiner$Log" "parts" "[I" : Cond) ∈ wG := wGm 130 (by decide +kernel) (by decide +kernel)
theorem q131 : (Jvm.Cond.soleField "ProcessMiner$Log" "parts" : Cond) ∈ wG := wGm 131 (by decide +kernel) (by decide +kernel)
theorem q132 : (Jvm.Cond.lays "ProcessMiner$Log" "ProcessMiner$Log" "partCount" "I" : Cond) ∈ wG := wGm 132 (by decide +kernel) (by decide +kernel)
theorem q133 : (Jvm.Cond.soleField "ProcessMiner$Log" "partCount" : Cond) ∈ wG := wGm 133 (by decide +kernel) (by decide +kernel)
theorem q134 : (Jvm.Cond.superclass "ProcessMiner$Log" "java/lang/Object" : Cond) ∈ wG := wGm 134 (by decide +kernel) (by decide +kernel)
theorem q135 : (Jvm.Cond.fieldLink "ProcessMiner" (9 : Nat) "ProcessMiner" "buffer" "[I" : Cond) ∈ wG := wGm 135 (by decide +kernel) (by decide +kernel)
theorem q136 : (Jvm.Cond.fieldLink "ProcessMiner" (13 : Nat) "ProcessMiner" "buffered" "I" : Cond) ∈ wG := wGm 136 (by decide +kernel) (by decide +kernel)
theorem q137 : (Jvm.Cond.fieldLink "ProcessMiner" (17 : Nat) "ProcessMiner" "events" "[I" : Cond) ∈ wG := wGm 137 (by decide +kernel) (by decide +kernel)
theorem q138 : (Jvm.Cond.fieldLink "ProcessMiner" (20 : Nat) "ProcessMiner" "lengths" "[I" : Cond) ∈ wG := wGm 138 (by decide +kernel) (by decide +kernel)
theorem q139 : (Jvm.Cond.fieldLink "ProcessMiner" (23 : Nat) "ProcessMiner" "traceTimes" "[I" : Cond) ∈ wG := wGm 139 (by decide +kernel) (by decide +kernel)
theorem q140 : (Jvm.Cond.fieldLink "ProcessMiner" (26 : Nat) "ProcessMiner" "stored" "I" : Cond) ∈ wG := wGm 140 (by decide +kernel) (by decide +kernel)
theorem q141 : (Jvm.Cond.fieldLink "ProcessMiner" (31 : Nat) "ProcessMiner" "levels" "[LProcessMiner$Log;" : Cond) ∈ wG := wGm 141 (by decide +kernel) (by decide +kernel)
theorem q142 : (Jvm.Cond.fieldLink "ProcessMiner" (38 : Nat) "ProcessMiner" "tree" "LProcessMiner$Tree;" : Cond) ∈ wG := wGm 142 (by decide +kernel) (by decide +kernel)
theorem q143 : (Jvm.Cond.fieldLink "ProcessMiner" (47 : Nat) "ProcessMiner" "matcher" "LProcessMiner$Matcher;" : Cond) ∈ wG := wGm 143 (by decide +kernel) (by decide +kernel)
theorem q144 : (Jvm.Cond.fieldLink "ProcessMiner" (51 : Nat) "ProcessMiner" "mined" "Z" : Cond) ∈ wG := wGm 144 (by decide +kernel) (by decide +kernel)
theorem q145 : (Jvm.Cond.laysFinal "ProcessMiner" "ProcessMiner" "buffer" "[I" : Cond) ∈ wG := wGm 145 (by decide +kernel) (by decide +kernel)
theorem q146 : (Jvm.Cond.soleField "ProcessMiner" "buffer" : Cond) ∈ wG := wGm 146 (by decide +kernel) (by decide +kernel)
theorem q147 : (Jvm.Cond.lays "ProcessMiner" "ProcessMiner" "buffered" "I" : Cond) ∈ wG := wGm 147 (by decide +kernel) (by decide +kernel)
theorem q148 : (Jvm.Cond.soleField "ProcessMiner" "buffered" : Cond) ∈ wG := wGm 148 (by decide +kernel) (by decide +kernel)
theorem q149 : (Jvm.Cond.laysFinal "ProcessMiner" "ProcessMiner" "events" "[I" : Cond) ∈ wG := wGm 149 (by decide +kernel) (by decide +kernel)
theorem q150 : (Jvm.Cond.soleField "ProcessMiner" "events" : Cond) ∈ wG := wGm 150 (by decide +kernel) (by decide +kernel)
theorem q151 : (Jvm.Cond.laysFinal "ProcessMiner" "ProcessMiner" "lengths" "[I" : Cond) ∈ wG := wGm 151 (by decide +kernel) (by decide +kernel)
theorem q152 : (Jvm.Cond.soleField "ProcessMiner" "lengths" : Cond) ∈ wG := wGm 152 (by decide +kernel) (by decide +kernel)
theorem q153 : (Jvm.Cond.laysFinal "ProcessMiner" "ProcessMiner" "traceTimes" "[I" : Cond) ∈ wG := wGm 153 (by decide +kernel) (by decide +kernel)
theorem q154 : (Jvm.Cond.soleField "ProcessMiner" "traceTimes" : Cond) ∈ wG := wGm 154 (by decide +kernel) (by decide +kernel)
theorem q155 : (Jvm.Cond.lays "ProcessMiner" "ProcessMiner" "stored" "I" : Cond) ∈ wG := wGm 155 (by decide +kernel) (by decide +kernel)
theorem q156 : (Jvm.Cond.soleField "ProcessMiner" "stored" : Cond) ∈ wG := wGm 156 (by decide +kernel) (by decide +kernel)
theorem q157 : (Jvm.Cond.laysFinal "ProcessMiner" "ProcessMiner" "levels" "[LProcessMiner$Log;" : Cond) ∈ wG := wGm 157 (by decide +kernel) (by decide +kernel)
theorem q158 : (Jvm.Cond.soleField "ProcessMiner" "levels" : Cond) ∈ wG := wGm 158 (by decide +kernel) (by decide +kernel)
theorem q159 : (Jvm.Cond.laysFinal "ProcessMiner" "ProcessMiner" "tree" "LProcessMiner$Tree;" : Cond) ∈ wG := wGm 159 (by decide +kernel) (by decide +kernel)
theorem q160 : (Jvm.Cond.soleField "ProcessMiner" "tree" : Cond) ∈ wG := wGm 160 (by decide +kernel) (by decide +kernel)
theorem q161 : (Jvm.Cond.laysFinal "ProcessMiner" "ProcessMiner" "matcher" "LProcessMiner$Matcher;" : Cond) ∈ wG := wGm 161 (by decide +kernel) (by decide +kernel)
theorem q162 : (Jvm.Cond.soleField "ProcessMiner" "matcher" : Cond) ∈ wG := wGm 162 (by decide +kernel) (by decide +kernel)
theorem q163 : (Jvm.Cond.lays "ProcessMiner" "ProcessMiner" "mined" "Z" : Cond) ∈ wG := wGm 163 (by decide +kernel) (by decide +kernel)
theorem q164 : (Jvm.Cond.soleField "ProcessMiner" "mined" : Cond) ∈ wG := wGm 164 (by decide +kernel) (by decide +kernel)
theorem q165 : (Jvm.Cond.superclass "ProcessMiner" "java/lang/Object" : Cond) ∈ wG := wGm 165 (by decide +kernel) (by decide +kernel)
theorem q166 : (Jvm.Cond.methodLink "ProcessMinerLaw" (106 : Nat) ({ cls := "ProcessMiner", name := "traceCount", desc := "()I" } : Jvm.MethodName) : Cond) ∈ wG := wGm 166 (by decide +kernel) (by decide +kernel)
theorem q167 : (Jvm.Cond.instanceMethod ({ cls := "ProcessMiner", name := "traceCount", desc := "()I" } : Jvm.MethodName) : Cond) ∈ wG := wGm 167 (by decide +kernel) (by decide +kernel)
theorem q168 : (Jvm.Cond.selects "ProcessMiner" ({ cls := "ProcessMiner", name := "traceCount", desc := "()I" } : Jvm.MethodName) ({ cls := "ProcessMiner", name := "traceCount", desc := "()I" } : Jvm.MethodName) : Cond) ∈ wG := wGm 168 (by decide +kernel) (by decide +kernel)
theorem q169 : (Jvm.Cond.code ({ cls := "ProcessMiner", name := "traceCount", desc := "()I" } : Jvm.MethodName) prog_1_method_6_code (1 : Nat) (Option.some Jvm.ClassFile.FieldType.int) : Cond) ∈ wG := wGm 169 (by decide +kernel) (by decide +kernel)
theorem q170 : (Jvm.Cond.methodLink "ProcessMinerLaw" (116 : Nat) ({ cls := "ProcessMiner", name := "labels", desc := "()I" } : Jvm.MethodName) : Cond) ∈ wG := wGm 170 (by decide +kernel) (by decide +kernel)
theorem q171 : (Jvm.Cond.instanceMethod ({ cls := "ProcessMiner", name := "labels", desc := "()I" } : Jvm.MethodName) : Cond) ∈ wG := wGm 171 (by decide +kernel) (by decide +kernel)
theorem q172 : (Jvm.Cond.selects "ProcessMiner" ({ cls := "ProcessMiner", name := "labels", desc := "()I" } : Jvm.MethodName) ({ cls := "ProcessMiner", name := "labels", desc := "()I" } : Jvm.MethodName) : Cond) ∈ wG := wGm 172 (by decide +kernel) (by decide +kernel)
theorem q173 : (Jvm.Cond.code ({ cls := "ProcessMiner", name := "labels", desc := "()I" } : Jvm.MethodName) prog_1_method_9_code (1 : Nat) (Option.some Jvm.ClassFile.FieldType.int) : Cond) ∈ wG := wGm 173 (by decide +kernel) (by decide +kernel)
theorem q174 : (Jvm.Cond.methodLink "ProcessMiner" (82 : Nat) ({ cls := "ProcessMiner", name := "readLog", desc := "()LProcessMiner$Log;" } : Jvm.MethodName) : Cond) ∈ wG := wGm 174 (by decide +kernel) (by decide +kernel)
theorem q176 : (Jvm.Cond.instanceMethod ({ cls := "ProcessMiner", name := "readLog", desc := "()LProcessMiner$Log;" } : Jvm.MethodName) : Cond) ∈ wG := wGm 176 (by decide +kernel) (by decide +kernel)
theorem q177 : (Jvm.Cond.code ({ cls := "ProcessMiner", name := "readLog", desc := "()LProcessMiner$Log;" } : Jvm.MethodName) prog_1_method_39_code (4 : Nat) (Option.some (Jvm.ClassFile.FieldType.object "ProcessMiner$Log")) : Cond) ∈ wG := wGm 177 (by decide +kernel) (by decide +kernel)
theorem q178 : (Jvm.Cond.methodLink "ProcessMiner" (192 : Nat) ({ cls := "ProcessMiner$Log", name := "clear", desc := "()V" } : Jvm.MethodName) : Cond) ∈ wG := wGm 178 (by decide +kernel) (by decide +kernel)
theorem q179 : (Jvm.Cond.instanceMethod ({ cls := "ProcessMiner$Log", name := "clear", desc := "()V" } : Jvm.MethodName) : Cond) ∈ wG := wGm 179 (by decide +kernel) (by decide +kernel)
theorem q180 : (Jvm.Cond.selects "ProcessMiner$Log" ({ cls := "ProcessMiner$Log", name := "clear", desc := "()V" } : Jvm.MethodName) ({ cls := "ProcessMiner$Log", name := "clear", desc := "()V" } : Jvm.MethodName) : Cond) ∈ wG := wGm 180 (by decide +kernel) (by decide +kernel)
theorem q181 : (Jvm.Cond.code ({ cls := "ProcessMiner$Log", name := "clear", desc := "()V" } : Jvm.MethodName) prog_2_method_2_code (1 : Nat) (Option.none : Option Jvm.ClassFile.FieldType) : Cond) ∈ wG := wGm 181 (by decide +kernel) (by decide +kernel)
theorem q182 : (Jvm.Cond.methodLink "ProcessMiner" (195 : Nat) ({ cls := "ProcessMiner$Log", name := "append", desc := "(I)V" } : Jvm.MethodName) : Cond) ∈ wG := wGm 182 (by decide +kernel) (by decide +kernel)
theorem q183 : (Jvm.Cond.instanceMethod ({ cls := "ProcessMiner$Log", name := "append", desc := "(I)V" } : Jvm.MethodName) : Cond) ∈ wG := wGm 183 (by decide +kernel) (by decide +kernel)
theorem q184 : (Jvm.Cond.selects "ProcessMiner$Log" ({ cls := "ProcessMiner$Log", name := "append", desc := "(I)V" } : Jvm.MethodName) ({ cls := "ProcessMiner$Log", name := "append", desc := "(I)V" } : Jvm.MethodName) : Cond) ∈ wG := wGm 184 (by decide +kernel) (by decide +kernel)
theorem q185 : (Jvm.Cond.code ({ cls := "ProcessMiner$Log", name := "append", desc := "(I)V" } : Jvm.MethodName) prog_2_method_3_code (2 : Nat) (Option.none : Option Jvm.ClassFile.FieldType) : Cond) ∈ wG := wGm 185 (by decide +kernel) (by decide +kernel)
theorem q186 : (Jvm.Cond.methodLink "ProcessMiner" (198 : Nat) ({ cls := "ProcessMiner$Log", name := "closeTrace", desc := "()V" } : Jvm.MethodName) : Cond) ∈ wG := wGm 186 (by decide +kernel) (by decide +kernel)
theorem q187 : (Jvm.Cond.instanceMethod ({ cls := "ProcessMiner$Log", name := "closeTrace", desc := "()V" } : Jvm.MethodName) : Cond) ∈ wG := wGm 187 (by decide +kernel) (by decide +kernel)
theorem q188 : (Jvm.Cond.selects "ProcessMiner$Log" ({ cls := "ProcessMiner$Log", name := "closeTrace", desc := "()V" } : Jvm.MethodName) ({ cls := "ProcessMiner$Log", name := "closeTrace", desc := "()V" } : Jvm.MethodName) : Cond) ∈ wG := wGm 188 (by decide +kernel) (by decide +kernel)
theorem q189 : (Jvm.Cond.code ({ cls := "ProcessMiner$Log", name := "closeTrace", desc := "()V" } : Jvm.MethodName) prog_2_method_4_code (1 : Nat) (Option.none : Option Jvm.ClassFile.FieldType) : Cond) ∈ wG := wGm 189 (by decide +kernel) (by decide +kernel)
theorem q190 : (Jvm.Cond.methodLink "ProcessMiner" (201 : Nat) ({ cls := "ProcessMiner$Log", name := "measure", desc := "()V" } : Jvm.MethodName) : Cond) ∈ wG := wGm 190 (by decide +kernel) (by decide +kernel)
theorem q191 : (Jvm.Cond.instanceMethod ({ cls := "ProcessMiner$Log", name := "measure", desc := "()V" } : Jvm.MethodName) : Cond) ∈ wG := wGm 191 (by decide +kernel) (by decide +kernel)
theorem q192 : (Jvm.Cond.selects "ProcessMiner$Log" ({ cls := "ProcessMiner$Log", name := "measure", desc := "()V" } : Jvm.MethodName) ({ cls := "ProcessMiner$Log", name := "measure", desc := "()V" } : Jvm.MethodName) : Cond) ∈ wG := wGm 192 (by decide +kernel) (by decide +kernel)
theorem q193 : (Jvm.Cond.code ({ cls := "ProcessMiner$Log", name := "measure", desc := "()V" } : Jvm.MethodName) prog_2_method_8_code (3 : Nat) (Option.none : Option Jvm.ClassFile.FieldType) : Cond) ∈ wG := wGm 193 (by decide +kernel) (by decide +kernel)
theorem q194 : (Jvm.Cond.methodLink "ProcessMiner$Log" (78 : Nat) ({ cls := "ProcessMiner$Log", name := "measureTrace", desc := "(II)V" } : Jvm.MethodName) : Cond) ∈ wG := wGm 194 (by decide +kernel) (by decide +kernel)
theorem q196 : (Jvm.Cond.instanceMethod ({ cls := "ProcessMiner$Log", name := "measureTrace", desc := "(II)V" } : Jvm.MethodName) : Cond) ∈ wG := wGm 196 (by decide +kernel) (by decide +kernel)
theorem q197 : (Jvm.Cond.code ({ cls := "ProcessMiner$Log", name := "measureTrace", desc := "(II)V" } : Jvm.MethodName) prog_2_method_9_code (4 : Nat) (Option.none : Option Jvm.ClassFile.FieldType) : Cond) ∈ wG := wGm 197 (by decide +kernel) (by decide +kernel)
theorem q198 : (Jvm.Cond.methodLink "ProcessMinerLaw" (123 : Nat) ({ cls := "ProcessMiner", name := "edges", desc := "(Z)I" } : Jvm.MethodName) : Cond) ∈ wG := wGm 198 (by decide +kernel) (by decide +kernel)
theorem q199 : (Jvm.Cond.instanceMethod ({ cls := "ProcessMiner", name := "edges", desc := "(Z)I" } : Jvm.MethodName) : Cond) ∈ wG := wGm 199 (by decide +kernel) (by decide +kernel)
theorem q200 : (Jvm.Cond.selects "ProcessMiner" ({ cls := "ProcessMiner", name := "edges", desc := "(Z)I" } : Jvm.MethodName) ({ cls := "ProcessMiner", name := "edges", desc := "(Z)I" } : Jvm.MethodName) : Cond) ∈ wG := wGm 200 (by decide +kernel) (by decide +kernel)
theorem q201 : (Jvm.Cond.code ({ cls := "ProcessMiner", name := "edges", desc := "(Z)I" } : Jvm.MethodName) prog_1_method_11_code (3 : Nat) (Option.some Jvm.ClassFile.FieldType.int) : Cond) ∈ wG := wGm 201 (by decide +kernel) (by decide +kernel)
theorem q202 : (Jvm.Cond.methodLink "ProcessMinerLaw" (134 : Nat) ({ cls := "ProcessMiner", name := "variants", desc := "()I" } : Jvm.MethodName) : Cond) ∈ wG := wGm 202 (by decide +kernel) (by decide +kernel)
theorem q203 : (Jvm.Cond.instanceMethod ({ cls := "ProcessMiner", name := "variants", desc := "()I" } : Jvm.MethodName) : Cond) ∈ wG := wGm 203 (by decide +kernel) (by decide +kernel)
theorem q204 : (Jvm.Cond.selects "ProcessMiner" ({ cls := "ProcessMiner", name := "variants", desc := "()I" } : Jvm.MethodName) ({ cls := "ProcessMiner", name := "variants", desc := "()I" } : Jvm.MethodName) : Cond) ∈ wG := wGm 204 (by decide +kernel) (by decide +kernel)
theorem q205 : (Jvm.Cond.code ({ cls := "ProcessMiner", name := "variants", desc := "()I" } : Jvm.MethodName) prog_1_method_14_code (3 : Nat) (Option.some Jvm.ClassFile.FieldType.int) : Cond) ∈ wG := wGm 205 (by decide +kernel) (by decide +kernel)
theorem q206 : (Jvm.Cond.methodLink "ProcessMiner" (112 : Nat) ({ cls := "ProcessMiner", name := "isRepeated", desc := "(I)Z" } : Jvm.MethodName) : Cond) ∈ wG := wGm 206 (by decide +kernel) (by decide +kernel)
theorem q208 : (Jvm.Cond.instanceMethod ({ cls := "ProcessMiner", name := "isRepeated", desc := "(I)Z" } : Jvm.MethodName) : Cond) ∈ wG := wGm 208 (by decide +kernel) (by decide +kernel)
theorem q209 : (Jvm.Cond.code ({ cls := "ProcessMiner", name := "isRepeated", desc := "(I)Z" } : Jvm.MethodName) prog_1_method_35_code (3 : Nat) (Option.some Jvm.ClassFile.FieldType.boolean) : Cond) ∈ wG := wGm 209 (by decide +kernel) (by decide +kernel)
theorem q210 : (Jvm.Cond.methodLink "ProcessMiner" (187 : Nat) ({ cls := "ProcessMiner", name := "isSame", desc := "(II)Z" } : Jvm.MethodName) : Cond) ∈ wG := wGm 210 (by decide +kernel) (by decide +kernel)
theorem q212 : (Jvm.Cond.instanceMethod ({ cls := "ProcessMiner", name := "isSame", desc := "(II)Z" } : Jvm.MethodName) : Cond) ∈ wG := wGm 212 (by decide +kernel) (by decide +kernel)
theorem q213 : (Jvm.Cond.code ({ cls := "ProcessMiner", name := "isSame", desc := "(II)Z" } : Jvm.MethodName) prog_1_method_36_code (4 : Nat) (Option.some Jvm.ClassFile.FieldType.boolean) : Cond) ∈ wG := wGm 213 (by decide +kernel) (by decide +kernel)
theorem q214 : (Jvm.Cond.methodLink "ProcessMinerLaw" (138 : Nat) ({ cls := "ProcessMiner", name := "mine", desc := "()I" } : Jvm.MethodName) : Cond) ∈ wG := wGm 214 (by decide +kernel) (by decide +kernel)
theorem q215 : (Jvm.Cond.instanceMethod ({ cls := "ProcessMiner", name := "mine", desc := "()I" } : Jvm.MethodName) : Cond) ∈ wG := wGm 215 (by decide +kernel) (by decide +kernel)
theorem q216 : (Jvm.Cond.selects "ProcessMiner" ({ cls := "ProcessMiner", name := "mine", desc := "()I" } : Jvm.MethodName) ({ cls := "ProcessMiner", name := "mine", desc := "()I" } : Jvm.MethodName) : Cond) ∈ wG := wGm 216 (by decide +kernel) (by decide +kernel)
theorem q217 : (Jvm.Cond.code ({ cls := "ProcessMiner", name := "mine", desc := "()I" } : Jvm.MethodName) prog_1_method_15_code (1 : Nat) (Option.some Jvm.ClassFile.FieldType.int) : Cond) ∈ wG := wGm 217 (by decide +kernel) (by decide +kernel)
theorem q218 : (Jvm.Cond.methodLink "ProcessMiner" (119 : Nat) ({ cls := "ProcessMiner", name := "grow", desc := "([LProcessMiner$Log;LProcessMiner$Tree;II)V" } : Jvm.MethodName) : Cond) ∈ wG := wGm 218 (by decide +kernel) (by decide +kernel)
theorem q219 : (Jvm.Cond.static ({ cls := "ProcessMiner", name := "grow", desc := "([LProcessMiner$Log;LProcessMiner$Tree;II)V" } : Jvm.MethodName) : Cond) ∈ wG := wGm 219 (by decide +kernel) (by decide +kernel)
theorem q220 : (Jvm.Cond.code ({ cls := "ProcessMiner", name := "grow", desc := "([LProcessMiner$Log;LProcessMiner$Tree;II)V" } : Jvm.MethodName) prog_1_method_40_code (8 : Nat) (Option.none : Option Jvm.ClassFile.FieldType) : Cond) ∈ wG := wGm 220 (by decide +kernel) (by decide +kernel)
theorem q221 : (Jvm.Cond.methodLink "ProcessMiner" (204 : Nat) ({ cls := "ProcessMiner$Log", name := "cut", desc := "()I" } : Jvm.MethodName) : Cond) ∈ wG := wGm 221 (by decide +kernel) (by decide +kernel)
theorem q222 : (Jvm.Cond.instanceMethod ({ cls := "ProcessMiner$Log", name := "cut", desc := "()I" } : Jvm.MethodName) : Cond) ∈ wG := wGm 222 (by decide +kernel) (by decide +kernel)
theorem q223 : (Jvm.Cond.selects "ProcessMiner$Log" ({ cls := "ProcessMiner$Log", name := "cut", desc := "()I" } : Jvm.MethodName) ({ cls := "ProcessMiner$Log", name := "cut", desc := "()I" } : Jvm.MethodName) : Cond) ∈ wG := wGm 223 (by decide +kernel) (by decide +kernel)
theorem q224 : (Jvm.Cond.code ({ cls := "ProcessMiner$Log", name := "cut", desc := "()I" } : Jvm.MethodName) prog_2_method_11_code (1 : Nat) (Option.some Jvm.ClassFile.FieldType.int) : Cond) ∈ wG := wGm 224 (by decide +kernel) (by decide +kernel)
theorem q225 : (Jvm.Cond.methodLink "ProcessMiner$Log" (82 : Nat) ({ cls := "ProcessMiner$Log", name := "addPart", desc := "(I)V" } : Jvm.MethodName) : Cond) ∈ wG := wGm 225 (by decide +kernel) (by decide +kernel)
theorem q227 : (Jvm.Cond.instanceMethod ({ cls := "ProcessMiner$Log", name := "addPart", desc := "(I)V" } : Jvm.MethodName) : Cond) ∈ wG := wGm 227 (by decide +kernel) (by decide +kernel)
theorem q228 : (Jvm.Cond.code ({ cls := "ProcessMiner$Log", name := "addPart", desc := "(I)V" } : Jvm.MethodName) prog_2_method_17_code (2 : Nat) (Option.none : Option Jvm.ClassFile.FieldType) : Cond) ∈ wG := wGm 228 (by decide +kernel) (by decide +kernel)
theorem q229 : (Jvm.Cond.methodLink "ProcessMiner$Log" (85 : Nat) ({ cls := "java/lang/Integer", name := "bitCount", desc := "(I)I" } : Jvm.MethodName) : Cond) ∈ wG := wGm 229 (by decide +kernel) (by decide +kernel)
theorem q230 : (Jvm.Cond.static ({ cls := "java/lang/Integer", name := "bitCount", desc := "(I)I" } : Jvm.MethodName) : Cond) ∈ wG := wGm 230 (by decide +kernel) (by decide +kernel)
theorem q231 : (Jvm.Cond.code ({ cls := "java/lang/Integer", name := "bitCount", desc := "(I)I" } : Jvm.MethodName) prog_12_method_49_code (1 : Nat) (Option.some Jvm.ClassFile.FieldType.int) : Cond) ∈ wG := wGm 231 (by decide +kernel) (by decide +kernel)
theorem q232 : (Jvm.Cond.constant "java/lang/Integer" (265 : Nat) (1431655765 : Int32) : Cond) ∈ wG := wGm 232 (by decide +kernel) (by decide +kernel)
theorem q233 : (Jvm.Cond.constant "java/lang/Integer" (266 : Nat) (858993459 : Int32) : Cond) ∈ wG := wGm 233 (by decide +kernel) (by decide +kernel)
theorem q234 : (Jvm.Cond.constant "java/lang/Integer" (267 : Nat) (252645135 : Int32) : Cond) ∈ wG := wGm 234 (by decide +kernel) (by decide +kernel)
theorem q235 : (Jvm.Cond.methodLink "ProcessMiner$Log" (91 : Nat) ({ cls := "ProcessMiner$Log", name := "hasNext", desc := "()Z" } : Jvm.MethodName) : Cond) ∈ wG := wGm 235 (by decide +kernel) (by decide +kernel)
theorem q237 : (Jvm.Cond.instanceMethod ({ cls := "ProcessMiner$Log", name := "hasNext", desc := "()Z" } : Jvm.MethodName) : Cond) ∈ wG := wGm 237 (by decide +kernel) (by decide +kernel)
theorem q238 : (Jvm.Cond.code ({ cls := "ProcessMiner$Log", name := "hasNext", desc := "()Z" } : Jvm.MethodName) prog_2_method_12_code (2 : Nat) (Option.some Jvm.ClassFile.FieldType.boolean) : Cond) ∈ wG := wGm 238 (by decide +kernel) (by decide +kernel)
theorem q239 : (Jvm.Cond.methodLink "ProcessMiner$Log" (95 : Nat) ({ cls := "ProcessMiner$Log", name := "isCutByChoice", desc := "()Z" } : Jvm.MethodName) : Cond) ∈ wG := wGm 239 (by decide +kernel) (by decide +kernel)
theorem q241 : (Jvm.Cond.instanceMethod ({ cls := "ProcessMiner$Log", name := "isCutByChoice", desc := "()Z" } : Jvm.MethodName) : Cond) ∈ wG := wGm 241 (by decide +kernel) (by decide +kernel)
theorem q242 : (Jvm.Cond.code ({ cls := "ProcessMiner$Log", name := "isCutByChoice", desc := "()Z" } : Jvm.MethodName) prog_2_method_13_code (1 : Nat) (Option.some Jvm.ClassFile.FieldType.boolean) : Cond) ∈ wG := wGm 242 (by decide +kernel) (by decide +kernel)
theorem q243 : (Jvm.Cond.methodLink "ProcessMiner$Log" (107 : Nat) ({ cls := "ProcessMiner$Log", name := "linkNeighbours", desc := "()V" } : Jvm.MethodName) : Cond) ∈ wG := wGm 243 (by decide +kernel) (by decide +kernel)
theorem q245 : (Jvm.Cond.instanceMethod ({ cls := "ProcessMiner$Log", name := "linkNeighbours", desc := "()V" } : Jvm.MethodName) : Cond) ∈ wG := wGm 245 (by decide +kernel) (by decide +kernel)
theorem q246 : (Jvm.Cond.code ({ cls := "ProcessMiner$Log", name := "linkNeighbours", desc := "()V" } : Jvm.MethodName) prog_2_method_18_code (3 : Nat) (Option.none : Option Jvm.ClassFile.FieldType) : Cond) ∈ wG := wGm 246 (by decide +kernel) (by decide +kernel)
theorem q248 : (Jvm.Cond.static ({ cls := "ProcessMiner", name := "contains", desc := "(II)Z" } : Jvm.MethodName) : Cond) ∈ wG := wGm 248 (by decide +kernel) (by decide +kernel)
theorem q249 : (Jvm.Cond.code ({ cls := "ProcessMiner", name := "contains", desc := "(II)Z" } : Jvm.MethodName) prog_1_method_33_code (2 : Nat) (Option.some Jvm.ClassFile.FieldType.boolean) : Cond) ∈ wG := wGm 249 (by decide +kernel) (by decide +kernel)
theorem q250 : (Jvm.Cond.methodLink "ProcessMiner$Log" (110 : Nat) ({ cls := "ProcessMiner$Log", name := "addGroups", desc := "(I)V" } : Jvm.MethodName) : Cond) ∈ wG := wGm 250 (by decide +kernel) (by decide +kernel)
theorem q252 : (Jvm.Cond.instanceMethod ({ cls := "ProcessMiner$Log", name := "addGroups", desc := "(I)V" } : Jvm.MethodName) : Cond) ∈ wG := wGm 252 (by decide +kernel) (by decide +kernel)
theorem q253 : (Jvm.Cond.code ({ cls := "ProcessMiner$Log", name := "addGroups", desc := "(I)V" } : Jvm.MethodName) prog_2_method_19_code (5 : Nat) (Option.none : Option Jvm.ClassFile.FieldType) : Cond) ∈ wG := wGm 253 (by decide +kernel) (by decide +kernel)
theorem q254 : (Jvm.Cond.methodLink "ProcessMiner$Log" (126 : Nat) ({ cls := "ProcessMiner$Log", name := "groupOf", desc := "(II)I" } : Jvm.MethodName) : Cond) ∈ wG := wGm 254 (by decide +kernel) (by decide +kernel)
theorem q256 : (Jvm.Cond.instanceMethod ({ cls := "ProcessMiner$Log", name := "groupOf", desc := "(II)I" } : Jvm.MethodName) : Cond) ∈ wG := wGm 256 (by decide +kernel) (by decide +kernel)
theorem q257 : (Jvm.Cond.code ({ cls := "ProcessMiner$Log", name := "groupOf", desc := "(II)I" } : Jvm.MethodName) prog_2_method_20_code (6 : Nat) (Option.some Jvm.ClassFile.FieldType.int) : Cond) ∈ wG := wGm 257 (by decide +kernel) (by decide +kernel)
theorem q258 : (Jvm.Cond.methodLink "ProcessMiner$Log" (98 : Nat) ({ cls := "ProcessMiner$Log", name := "isCutByOrder", desc := "()Z" } : Jvm.MethodName) : Cond) ∈ wG := wGm 258 (by decide +kernel) (by decide +kernel)
theorem q260 : (Jvm.Cond.instanceMethod ({ cls := "ProcessMiner$Log", name := "isCutByOrder", desc := "()Z" } : Jvm.MethodName) : Cond) ∈ wG := wGm 260 (by decide +kernel) (by decide +kernel)
theorem q261 : (Jvm.Cond.code ({ cls := "ProcessMiner$Log", name := "isCutByOrder", desc := "()Z" } : Jvm.MethodName) prog_2_method_14_code (3 : Nat) (Option.some Jvm.ClassFile.FieldType.boolean) : Cond) ∈ wG := wGm 261 (by decide +kernel) (by decide +kernel)
theorem q262 : (Jvm.Cond.methodLink "ProcessMiner$Log" (113 : Nat) ({ cls := "ProcessMiner$Log", name := "findReach", desc := "()V" } : Jvm.MethodName) : Cond) ∈ wG := wGm 262 (by decide +kernel) (by decide +kernel)
theorem q263 : (Jvm.Cond.instanceMethod ({ cls := "ProcessMiner$Log", name := "findReach", desc := "()V" } : Jvm.MethodName) : Cond) ∈ wG := wGm 263 (by decide +kernel) (by decide +kernel)
theorem q264 : (Jvm.Cond.selects "ProcessMiner$Log" ({ cls := "ProcessMiner$Log", name := "findReach", desc := "()V" } : Jvm.MethodName) ({ cls := "ProcessMiner$Log", name := "findReach", desc := "()V" } : Jvm.MethodName) : Cond) ∈ wG := wGm 264 (by decide +kernel) (by decide +kernel)
theorem q265 : (Jvm.Cond.code ({ cls := "ProcessMiner$Log", name := "findReach", desc := "()V" } : Jvm.MethodName) prog_2_method_10_code (3 : Nat) (Option.none : Option Jvm.ClassFile.FieldType) : Cond) ∈ wG := wGm 265 (by decide +kernel) (by decide +kernel)
theorem q266 : (Jvm.Cond.methodLink "ProcessMiner$Log" (116 : Nat) ({ cls := "ProcessMiner$Log", name := "sortByReach", desc := "()V" } : Jvm.MethodName) : Cond) ∈ wG := wGm 266 (by decide +kernel) (by decide +kernel)
theorem q268 : (Jvm.Cond.instanceMethod ({ cls := "ProcessMiner$Log", name := "sortByReach", desc := "()V" } : Jvm.MethodName) : Cond) ∈ wG := wGm 268 (by decide +kernel) (by decide +kernel)
theorem q269 : (Jvm.Cond.code ({ cls := "ProcessMiner$Log", name := "sortByReach", desc := "()V" } : Jvm.MethodName) prog_2_method_21_code (4 : Nat) (Option.none : Option Jvm.ClassFile.FieldType) : Cond) ∈ wG := wGm 269 (by decide +kernel) (by decide +kernel)
theorem q270 : (Jvm.Cond.methodLink "ProcessMiner$Log" (130 : Nat) ({ cls := "ProcessMiner$Log", name := "leadsInto", desc := "(II)Z" } : Jvm.MethodName) : Cond) ∈ wG := wGm 270 (by decide +kernel) (by decide +kernel)
theorem q272 : (Jvm.Cond.instanceMethod ({ cls := "ProcessMiner$Log", name := "leadsInto", desc := "(II)Z" } : Jvm.MethodName) : Cond) ∈ wG := wGm 272 (by decide +kernel) (by decide +kernel)
theorem q273 : (Jvm.Cond.code ({ cls := "ProcessMiner$Log", name := "leadsInto", desc := "(II)Z" } : Jvm.MethodName) prog_2_method_22_code (4 : Nat) (Option.some Jvm.ClassFile.FieldType.boolean) : Cond) ∈ wG := wGm 273 (by decide +kernel) (by decide +kernel)
theorem q274 : (Jvm.Cond.methodLink "ProcessMiner$Log" (101 : Nat) ({ cls := "ProcessMiner$Log", name := "isCutByBoth", desc := "()Z" } : Jvm.MethodName) : Cond) ∈ wG := wGm 274 (by decide +kernel) (by decide +kernel)
theorem q276 : (Jvm.Cond.instanceMethod ({ cls := "ProcessMiner$Log", name := "isCutByBoth", desc := "()Z" } : Jvm.MethodName) : Cond) ∈ wG := wGm 276 (by decide +kernel) (by decide +kernel)
theorem q277 : (Jvm.Cond.code ({ cls := "ProcessMiner$Log", name := "isCutByBoth", desc := "()Z" } : Jvm.MethodName) prog_2_method_15_code (3 : Nat) (Option.some Jvm.ClassFile.FieldType.boolean) : Cond) ∈ wG := wGm 277 (by decide +kernel) (by decide +kernel)
theorem q278 : (Jvm.Cond.methodLink "ProcessMiner$Log" (119 : Nat) ({ cls := "ProcessMiner$Log", name := "joinLacking", desc := "()V" } : Jvm.MethodName) : Cond) ∈ wG := wGm 278 (by decide +kernel) (by decide +kernel)
theorem q280 : (Jvm.Cond.instanceMethod ({ cls := "ProcessMiner$Log", name := "joinLacking", desc := "()V" } : Jvm.MethodName) : Cond) ∈ wG := wGm 280 (by decide +kernel) (by decide +kernel)
theorem q281 : (Jvm.Cond.code ({ cls := "ProcessMiner$Log", name := "joinLacking", desc := "()V" } : Jvm.MethodName) prog_2_method_23_code (3 : Nat) (Option.none : Option Jvm.ClassFile.FieldType) : Cond) ∈ wG := wGm 281 (by decide +kernel) (by decide +kernel)
theorem q282 : (Jvm.Cond.methodLink "ProcessMiner$Log" (133 : Nat) ({ cls := "ProcessMiner$Log", name := "firstLacking", desc := "()I" } : Jvm.MethodName) : Cond) ∈ wG := wGm 282 (by decide +kernel) (by decide +kernel)
theorem q284 : (Jvm.Cond.instanceMethod ({ cls := "ProcessMiner$Log", name := "firstLacking", desc := "()I" } : Jvm.MethodName) : Cond) ∈ wG := wGm 284 (by decide +kernel) (by decide +kernel)
theorem q285 : (Jvm.Cond.code ({ cls := "ProcessMiner$Log", name := "firstLacking", desc := "()I" } : Jvm.MethodName) prog_2_method_24_code (2 : Nat) (Option.some Jvm.ClassFile.FieldType.int) : Cond) ∈ wG := wGm 285 (by decide +kernel) (by decide +kernel)
theorem q286 : (Jvm.Cond.methodLink "ProcessMiner$Log" (136 : Nat) ({ cls := "ProcessMiner$Log", name := "joinToFirst", desc := "(I)V" } : Jvm.MethodName) : Cond) ∈ wG := wGm 286 (by decide +kernel) (by decide +kernel)
theorem q288 : (Jvm.Cond.instanceMethod ({ cls := "ProcessMiner$Log", name := "joinToFirst", desc := "(I)V" } : Jvm.MethodName) : Cond) ∈ wG := wGm 288 (by decide +kernel) (by decide +kernel)
theorem q289 : (Jvm.Cond.code ({ cls := "ProcessMiner$Log", name := "joinToFirst", desc := "(I)V" } : Jvm.MethodName) prog_2_method_25_code (3 : Nat) (Option.none : Option Jvm.ClassFile.FieldType) : Cond) ∈ wG := wGm 289 (by decide +kernel) (by decide +kernel)
theorem q290 : (Jvm.Cond.methodLink "ProcessMiner$Log" (104 : Nat) ({ cls := "ProcessMiner$Log", name := "isCutByAgain", desc := "()Z" } : Jvm.MethodName) : Cond) ∈ wG := wGm 290 (by decide +kernel) (by decide +kernel)
theorem q292 : (Jvm.Cond.instanceMethod ({ cls := "ProcessMiner$Log", name := "isCutByAgain", desc := "()Z" } : Jvm.MethodName) : Cond) ∈ wG := wGm 292 (by decide +kernel) (by decide +kernel)
theorem q293 : (Jvm.Cond.code ({ cls := "ProcessMiner$Log", name := "isCutByAgain", desc := "()Z" } : Jvm.MethodName) prog_2_method_16_code (4 : Nat) (Option.some Jvm.ClassFile.FieldType.boolean) : Cond) ∈ wG := wGm 293 (by decide +kernel) (by decide +kernel)
theorem q294 : (Jvm.Cond.methodLink "ProcessMiner$Log" (122 : Nat) ({ cls := "ProcessMiner$Log", name := "belongsToFirst", desc := "(I)Z" } : Jvm.MethodName) : Cond) ∈ wG := wGm 294 (by decide +kernel) (by decide +kernel)
theorem q296 : (Jvm.Cond.instanceMethod ({ cls := "ProcessMiner$Log", name := "belongsToFirst", desc := "(I)Z" } : Jvm.MethodName) : Cond) ∈ wG := wGm 296 (by decide +kernel) (by decide +kernel)
theorem q297 : (Jvm.Cond.code ({ cls := "ProcessMiner$Log", name := "belongsToFirst", desc := "(I)Z" } : Jvm.MethodName) prog_2_method_26_code (5 : Nat) (Option.some Jvm.ClassFile.FieldType.boolean) : Cond) ∈ wG := wGm 297 (by decide +kernel) (by decide +kernel)
theorem q298 : (Jvm.Cond.methodLink "ProcessMiner" (207 : Nat) ({ cls := "ProcessMiner$Tree", name := "add", desc := "(III)I" } : Jvm.MethodName) : Cond) ∈ wG := wGm 298 (by decide +kernel) (by decide +kernel)
theorem q299 : (Jvm.Cond.instanceMethod ({ cls := "ProcessMiner$Tree", name := "add", desc := "(III)I" } : Jvm.MethodName) : Cond) ∈ wG := wGm 299 (by decide +kernel) (by decide +kernel)
theorem q300 : (Jvm.Cond.selects "ProcessMiner$Tree" ({ cls := "ProcessMiner$Tree", name := "add", desc := "(III)I" } : Jvm.MethodName) ({ cls := "ProcessMiner$Tree", name := "add", desc := "(III)I" } : Jvm.MethodName) : Cond) ∈ wG := wGm 300 (by decide +kernel) (by decide +kernel)
theorem q301 : (Jvm.Cond.code ({ cls := "ProcessMiner$Tree", name := "add", desc := "(III)I" } : Jvm.MethodName) prog_4_method_2_code (5 : Nat) (Option.some Jvm.ClassFile.FieldType.int) : Cond) ∈ wG := wGm 301 (by decide +kernel) (by decide +kernel)
theorem q302 : (Jvm.Cond.methodLink "ProcessMiner" (219 : Nat) ({ cls := "ProcessMiner$Log", name := "take", desc := "(LProcessMiner$Log;II)V" } : Jvm.MethodName) : Cond) ∈ wG := wGm 302 (by decide +kernel) (by decide +kernel)
theorem q303 : (Jvm.Cond.instanceMethod ({ cls := "ProcessMiner$Log", name := "take", desc := "(LProcessMiner$Log;II)V" } : Jvm.MethodName) : Cond) ∈ wG := wGm 303 (by decide +kernel) (by decide +kernel)
theorem q304 : (Jvm.Cond.selects "ProcessMiner$Log" ({ cls := "ProcessMiner$Log", name := "take", desc := "(LProcessMiner$Log;II)V" } : Jvm.MethodName) ({ cls := "ProcessMiner$Log", name := "take", desc := "(LProcessMiner$Log;II)V" } : Jvm.MethodName) : Cond) ∈ wG := wGm 304 (by decide +kernel) (by decide +kernel)
theorem q305 : (Jvm.Cond.code ({ cls := "ProcessMiner$Log", name := "take", desc := "(LProcessMiner$Log;II)V" } : Jvm.MethodName) prog_2_method_6_code (7 : Nat) (Option.none : Option Jvm.ClassFile.FieldType) : Cond) ∈ wG := wGm 305 (by decide +kernel) (by decide +kernel)
theorem q306 : (Jvm.Cond.methodLink "ProcessMiner$Log" (53 : Nat) ({ cls := "ProcessMiner$Log", name := "clear", desc := "()V" } : Jvm.MethodName) : Cond) ∈ wG := wGm 306 (by decide +kernel) (by decide +kernel)
theorem q307 : (Jvm.Cond.methodLink "ProcessMiner$Log" (56 : Nat) ({ cls := "ProcessMiner$Log", name := "takeTrace", desc := "(LProcessMiner$Log;IIIZ)V" } : Jvm.MethodName) : Cond) ∈ wG := wGm 307 (by decide +kernel) (by decide +kernel)
theorem q309 : (Jvm.Cond.instanceMethod ({ cls := "ProcessMiner$Log", name := "takeTrace", desc := "(LProcessMiner$Log;IIIZ)V" } : Jvm.MethodName) : Cond) ∈ wG := wGm 309 (by decide +kernel) (by decide +kernel)
theorem q310 : (Jvm.Cond.code ({ cls := "ProcessMiner$Log", name := "takeTrace", desc := "(LProcessMiner$Log;IIIZ)V" } : Jvm.MethodName) prog_2_method_7_code (7 : Nat) (Option.none : Option Jvm.ClassFile.FieldType) : Cond) ∈ wG := wGm 310 (by decide +kernel) (by decide +kernel)
theorem q311 : (Jvm.Cond.methodLink "ProcessMiner$Log" (74 : Nat) ({ cls := "ProcessMiner$Log", name := "append", desc := "(I)V" } : Jvm.MethodName) : Cond) ∈ wG := wGm 311 (by decide +kernel) (by decide +kernel)
theorem q312 : (Jvm.Cond.methodLink "ProcessMiner$Log" (60 : Nat) ({ cls := "ProcessMiner$Log", name := "openStart", desc := "()I" } : Jvm.MethodName) : Cond) ∈ wG := wGm 312 (by decide +kernel) (by decide +kernel)
theorem q314 : (Jvm.Cond.instanceMethod ({ cls := "ProcessMiner$Log", name := "openStart", desc := "()I" } : Jvm.MethodName) : Cond) ∈ wG := wGm 314 (by decide +kernel) (by decide +kernel)
theorem q315 : (Jvm.Cond.code ({ cls := "ProcessMiner$Log", name := "openStart", desc := "()I" } : Jvm.MethodName) prog_2_method_5_code (1 : Nat) (Option.some Jvm.ClassFile.FieldType.int) : Cond) ∈ wG := wGm 315 (by decide +kernel) (by decide +kernel)
theorem q316 : (Jvm.Cond.methodLink "ProcessMiner$Log" (64 : Nat) ({ cls := "ProcessMiner$Log", name := "closeTrace", desc := "()V" } : Jvm.MethodName) : Cond) ∈ wG := wGm 316 (by decide +kernel) (by decide +kernel)
theorem q317 : (Jvm.Cond.methodLink "ProcessMiner$Log" (67 : Nat) ({ cls := "ProcessMiner$Log", name := "measure", desc := "()V" } : Jvm.MethodName) : Cond) ∈ wG := wGm 317 (by decide +kernel) (by decide +kernel)
theorem q318 : (Jvm.Cond.methodLink "ProcessMinerLaw" (176 : Nat) ({ cls := "ProcessMiner", name := "digest", desc := "()J" } : Jvm.MethodName) : Cond) ∈ wG := wGm 318 (by decide +kernel) (by decide +kernel)
theorem q319 : (Jvm.Cond.instanceMethod ({ cls := "ProcessMiner", name := "digest", desc := "()J" } : Jvm.MethodName) : Cond) ∈ wG := wGm 319 (by decide +kernel) (by decide +kernel)
theorem q320 : (Jvm.Cond.selects "ProcessMiner" ({ cls := "ProcessMiner", name := "digest", desc := "()J" } : Jvm.MethodName) ({ cls := "ProcessMiner", name := "digest", desc := "()J" } : Jvm.MethodName) : Cond) ∈ wG := wGm 320 (by decide +kernel) (by decide +kernel)
theorem q321 : (Jvm.Cond.code ({ cls := "ProcessMiner", name := "digest", desc := "()J" } : Jvm.MethodName) prog_1_method_27_code (4 : Nat) (Option.some Jvm.ClassFile.FieldType.long) : Cond) ∈ wG := wGm 321 (by decide +kernel) (by decide +kernel)
theorem q322 : (Jvm.Cond.constantLong "ProcessMiner" (167 : Nat) (167 : Int64) : Cond) ∈ wG := wGm 322 (by decide +kernel) (by decide +kernel)
theorem q323 : (Jvm.Cond.methodLink "ProcessMiner" (169 : Nat) ({ cls := "ProcessMiner", name := "addTo", desc := "(JI)J" } : Jvm.MethodName) : Cond) ∈ wG := wGm 323 (by decide +kernel) (by decide +kernel)
theorem q324 : (Jvm.Cond.static ({ cls := "ProcessMiner", name := "addTo", desc := "(JI)J" } : Jvm.MethodName) : Cond) ∈ wG := wGm 324 (by decide +kernel) (by decide +kernel)
theorem q325 : (Jvm.Cond.code ({ cls := "ProcessMiner", name := "addTo", desc := "(JI)J" } : Jvm.MethodName) prog_1_method_37_code (3 : Nat) (Option.some Jvm.ClassFile.FieldType.long) : Cond) ∈ wG := wGm 325 (by decide +kernel) (by decide +kernel)
theorem q326 : (Jvm.Cond.constantLong "ProcessMiner" (190 : Nat) (31 : Int64) : Cond) ∈ wG := wGm 326 (by decide +kernel) (by decide +kernel)
theorem q327 : (Jvm.Cond.methodLink "ProcessMiner" (173 : Nat) ({ cls := "ProcessMiner", name := "digestRow", desc := "(J[III)J" } : Jvm.MethodName) : Cond) ∈ wG := wGm 327 (by decide +kernel) (by decide +kernel)
theorem q328 : (Jvm.Cond.static ({ cls := "ProcessMiner", name := "digestRow", desc := "(J[III)J" } : Jvm.MethodName) : Cond) ∈ wG := wGm 328 (by decide +kernel) (by decide +kernel)
theorem q329 : (Jvm.Cond.code ({ cls := "ProcessMiner", name := "digestRow", desc := "(J[III)J" } : Jvm.MethodName) prog_1_method_38_code (8 : Nat) (Option.some Jvm.ClassFile.FieldType.long) : Cond) ∈ wG := wGm 329 (by decide +kernel) (by decide +kernel)
theorem q330 : (Jvm.Cond.methodLink "ProcessMinerLaw" (86 : Nat) ({ cls := "ProcessMinerLaw", name := "event", desc := "(LProcessMiner;I[J)I" } : Jvm.MethodName) : Cond) ∈ wG := wGm 330 (by decide +kernel) (by decide +kernel)
theorem q331 : (Jvm.Cond.static ({ cls := "ProcessMinerLaw", name := "event", desc := "(LProcessMiner;I[J)I" } : Jvm.MethodName) : Cond) ∈ wG := wGm 331 (by decide +kernel) (by decide +kernel)
theorem q332 : (Jvm.Cond.codeWith ({ cls := "ProcessMinerLaw", name := "event", desc := "(LProcessMiner;I[J)I" } : Jvm.MethodName) method_3_code (4 : Nat) (Option.some Jvm.ClassFile.FieldType.int) [((0 : Nat), (9 : Nat), (12 : Nat), (13 : Nat)), ((0 : Nat), (9 : Nat), (15 : Nat), (15 : Nat))] : Cond) ∈ wG := wGm 332 (by decide +kernel) (by decide +kernel)
theorem q333 : (Jvm.Cond.classLink "ProcessMinerLaw" (13 : Nat) "java/lang/IndexOutOfBoundsException" : Cond) ∈ wG := wGm 333 (by decide +kernel) (by decide +kernel)
theorem q334 : (Jvm.Cond.classLink "ProcessMinerLaw" (15 : Nat) "java/lang/IllegalStateException" : Cond) ∈ wG := wGm 334 (by decide +kernel) (by decide +kernel)
theorem q335 : (Jvm.Cond.methodLink "ProcessMinerLaw" (7 : Nat) ({ cls := "ProcessMiner", name := "event", desc := "(I)I" } : Jvm.MethodName) : Cond) ∈ wG := wGm 335 (by decide +kernel) (by decide +kernel)
theorem q336 : (Jvm.Cond.instanceMethod ({ cls := "ProcessMiner", name := "event", desc := "(I)I" } : Jvm.MethodName) : Cond) ∈ wG := wGm 336 (by decide +kernel) (by decide +kernel)
theorem q337 : (Jvm.Cond.selects "ProcessMiner" ({ cls := "ProcessMiner", name := "event", desc := "(I)I" } : Jvm.MethodName) ({ cls := "ProcessMiner", name := "event", desc := "(I)I" } : Jvm.MethodName) : Cond) ∈ wG := wGm 337 (by decide +kernel) (by decide +kernel)
theorem q338 : (Jvm.Cond.code ({ cls := "ProcessMiner", name := "event", desc := "(I)I" } : Jvm.MethodName) prog_1_method_2_code (2 : Nat) (Option.some Jvm.ClassFile.FieldType.int) : Cond) ∈ wG := wGm 338 (by decide +kernel) (by decide +kernel)
theorem q339 : (Jvm.Cond.methodLink "ProcessMiner" (56 : Nat) ({ cls := "ProcessMiner", name := "checkLabel", desc := "(I)V" } : Jvm.MethodName) : Cond) ∈ wG := wGm 339 (by decide +kernel) (by decide +kernel)
theorem q340 : (Jvm.Cond.static ({ cls := "ProcessMiner", name := "checkLabel", desc := "(I)V" } : Jvm.MethodName) : Cond) ∈ wG := wGm 340 (by decide +kernel) (by decide +kernel)
theorem q341 : (Jvm.Cond.code ({ cls := "ProcessMiner", name := "checkLabel", desc := "(I)V" } : Jvm.MethodName) prog_1_method_28_code (1 : Nat) (Option.none : Option Jvm.ClassFile.FieldType) : Cond) ∈ wG := wGm 341 (by decide +kernel) (by decide +kernel)
theorem q342 : (Jvm.Cond.classLink "ProcessMiner" (77 : Nat) "java/lang/IndexOutOfBoundsException" : Cond) ∈ wG := wGm 342 (by decide +kernel) (by decide +kernel)
theorem q343 : (Jvm.Cond.instantiable "java/lang/IndexOutOfBoundsException" (6 : Nat) : Cond) ∈ wG := wGm 343 (by decide +kernel) (by decide +kernel)
theorem q351 : (Jvm.Cond.selects "java/lang/IndexOutOfBoundsException" ({ cls := "java/lang/Throwable", name := "fillInStackTrace", desc := "(I)Ljava/lang/Throwable;" } : Jvm.MethodName) ({ cls := "java/lang/Throwable", name := "fillInStackTrace", desc := "(I)Ljava/lang/Throwable;" } : Jvm.MethodName) : Cond) ∈ wG := wGm 351 (by decide +kernel) (by decide +kernel)
theorem q352 : (Jvm.Cond.selects "java/lang/IndexOutOfBoundsException" ({ cls := "java/lang/Throwable", name := "fillInStackTrace", desc := "()Ljava/lang/Throwable;" } : Jvm.MethodName) ({ cls := "java/lang/Throwable", name := "fillInStackTrace", desc := "()Ljava/lang/Throwable;" } : Jvm.MethodName) : Cond) ∈ wG := wGm 352 (by decide +kernel) (by decide +kernel)
theorem q353 : (Jvm.Cond.lays "java/lang/IndexOutOfBoundsException" "java/lang/Throwable" "cause" "Ljava/lang/Throwable;" : Cond) ∈ wG := wGm 353 (by decide +kernel) (by decide +kernel)
theorem q354 : (Jvm.Cond.lays "java/lang/Throwable" "java/lang/Throwable" "cause" "Ljava/lang/Throwable;" : Cond) ∈ wG := wGm 354 (by decide +kernel) (by decide +kernel)
theorem q355 : (Jvm.Cond.lays "java/lang/IndexOutOfBoundsException" "java/lang/Throwable" "stackTrace" "[Ljava/lang/StackTraceElement;" : Cond) ∈ wG := wGm 355 (by decide +kernel) (by decide +kernel)
theorem q356 : (Jvm.Cond.lays "java/lang/Throwable" "java/lang/Throwable" "stackTrace" "[Ljava/lang/StackTraceElement;" : Cond) ∈ wG := wGm 356 (by decide +kernel) (by decide +kernel)
theorem q357 : (Jvm.Cond.lays "java/lang/IndexOutOfBoundsException" "java/lang/Throwable" "suppressedExceptions" "Ljava/util/List;" : Cond) ∈ wG := wGm 357 (by decide +kernel) (by decide +kernel)
theorem q358 : (Jvm.Cond.lays "java/lang/Throwable" "java/lang/Throwable" "suppressedExceptions" "Ljava/util/List;" : Cond) ∈ wG := wGm 358 (by decide +kernel) (by decide +kernel)
theorem q359 : (Jvm.Cond.lays "java/lang/IndexOutOfBoundsException" "java/lang/Throwable" "detailMessage" "Ljava/lang/String;" : Cond) ∈ wG := wGm 359 (by decide +kernel) (by decide +kernel)
theorem q360 : (Jvm.Cond.lays "java/lang/Throwable" "java/lang/Throwable" "detailMessage" "Ljava/lang/String;" : Cond) ∈ wG := wGm 360 (by decide +kernel) (by decide +kernel)
theorem q361 : (Jvm.Cond.lays "java/lang/IndexOutOfBoundsException" "java/lang/Throwable" "backtrace" "Ljava/lang/Object;" : Cond) ∈ wG := wGm 361 (by decide +kernel) (by decide +kernel)
theorem q362 : (Jvm.Cond.lays "java/lang/Throwable" "java/lang/Throwable" "backtrace" "Ljava/lang/Object;" : Cond) ∈ wG := wGm 362 (by decide +kernel) (by decide +kernel)
theorem q363 : (Jvm.Cond.fieldLink "java/lang/Throwable" (198 : Nat) "java/lang/Throwable" "backtrace" "Ljava/lang/Object;" : Cond) ∈ wG := wGm 363 (by decide +kernel) (by decide +kernel)
theorem q364 : (Jvm.Cond.superclass "java/lang/Throwable" "java/lang/Object" : Cond) ∈ wG := wGm 364 (by decide +kernel) (by decide +kernel)
theorem q365 : (Jvm.Cond.instanceMethod ({ cls := "java/lang/Throwable", name := "<init>", desc := "()V" } : Jvm.MethodName) : Cond) ∈ wG := wGm 365 (by decide +kernel) (by decide +kernel)
theorem q366 : (Jvm.Cond.code ({ cls := "java/lang/Throwable", name := "<init>", desc := "()V" } : Jvm.MethodName) prog_17_method_1_code (1 : Nat) (Option.none : Option Jvm.ClassFile.FieldType) : Cond) ∈ wG := wGm 366 (by decide +kernel) (by decide +kernel)
theorem q367 : (Jvm.Cond.methodLink "java/lang/Throwable" (1 : Nat) ({ cls := "java/lang/Object", name := "<init>", desc := "()V" } : Jvm.MethodName) : Cond) ∈ wG := wGm 367 (by decide +kernel) (by decide +kernel)
theorem q368 : (Jvm.Cond.fieldLink "java/lang/Throwable" (13 : Nat) "java/lang/Throwable" "UNASSIGNED_STACK" "[Ljava/lang/StackTraceElement;" : Cond) ∈ wG := wGm 368 (by decide +kernel) (by decide +kernel)
theorem q370 : (Jvm.Cond.fieldLink "java/lang/Throwable" (20 : Nat) "java/lang/Throwable" "SUPPRESSED_SENTINEL" "Ljava/util/List;" : Cond) ∈ wG := wGm 370 (by decide +kernel) (by decide +kernel)
theorem q372 : (Jvm.Cond.methodLink "java/lang/Throwable" (27 : Nat) ({ cls := "java/lang/Throwable", name := "fillInStackTrace", desc := "()Ljava/lang/Throwable;" } : Jvm.MethodName) : Cond) ∈ wG := wGm 372 (by decide +kernel) (by decide +kernel)
theorem q373 : (Jvm.Cond.instanceMethod ({ cls := "java/lang/Throwable", name := "fillInStackTrace", desc := "()Ljava/lang/Throwable;" } : Jvm.MethodName) : Cond) ∈ wG := wGm 373 (by decide +kernel) (by decide +kernel)
theorem q374 : (Jvm.Cond.sameMethod "java/lang/Throwable" "java/lang/Throwable" "fillInStackTrace" "()Ljava/lang/Throwable;" : Cond) ∈ wG := wGm 374 (by decide +kernel) (by decide +kernel)
theorem q375 : (Jvm.Cond.selects "java/lang/IllegalArgumentException" ({ cls := "java/lang/Throwable", name := "fillInStackTrace", desc := "()Ljava/lang/Throwable;" } : Jvm.MethodName) ({ cls := "java/lang/Throwable", name := "fillInStackTrace", desc := "()Ljava/lang/Throwable;" } : Jvm.MethodName) : Cond) ∈ wG := wGm 375 (by decide +kernel) (by decide +kernel)
theorem q376 : (Jvm.Cond.selects "java/lang/IllegalStateException" ({ cls := "java/lang/Throwable", name := "fillInStackTrace", desc := "()Ljava/lang/Throwable;" } : Jvm.MethodName) ({ cls := "java/lang/Throwable", name := "fillInStackTrace", desc := "()Ljava/lang/Throwable;" } : Jvm.MethodName) : Cond) ∈ wG := wGm 376 (by decide +kernel) (by decide +kernel)
theorem q377 : (Jvm.Cond.codeSync ({ cls := "java/lang/Throwable", name := "fillInStackTrace", desc := "()Ljava/lang/Throwable;" } : Jvm.MethodName) prog_17_method_18_code (1 : Nat) (Option.some (Jvm.ClassFile.FieldType.object "java/lang/Throwable")) : Cond) ∈ wG := wGm 377 (by decide +kernel) (by decide +kernel)
theorem q378 : (Jvm.Cond.methodLink "java/lang/Throwable" (202 : Nat) ({ cls := "java/lang/Throwable", name := "fillInStackTrace", desc := "(I)Ljava/lang/Throwable;" } : Jvm.MethodName) : Cond) ∈ wG := wGm 378 (by decide +kernel) (by decide +kernel)
theorem q380 : (Jvm.Cond.instanceMethod ({ cls := "java/lang/Throwable", name := "fillInStackTrace", desc := "(I)Ljava/lang/Throwable;" } : Jvm.MethodName) : Cond) ∈ wG := wGm 380 (by decide +kernel) (by decide +kernel)
theorem q381 : (Jvm.Cond.instantiable "java/lang/Throwable" (6 : Nat) : Cond) ∈ wG := wGm 381 (by decide +kernel) (by decide +kernel)
theorem q382 : (Jvm.Cond.native ({ cls := "java/lang/Throwable", name := "fillInStackTrace", desc := "(I)Ljava/lang/Throwable;" } : Jvm.MethodName) : Cond) ∈ wG := wGm 382 (by decide +kernel) (by decide +kernel)
theorem q384 : (Jvm.Cond.methodLink "ProcessMiner" (81 : Nat) ({ cls := "java/lang/IndexOutOfBoundsException", name := "<init>", desc := "(Ljava/lang/String;)V" } : Jvm.MethodName) : Cond) ∈ wG := wGm 384 (by decide +kernel) (by decide +kernel)
theorem q385 : (Jvm.Cond.instanceMethod ({ cls := "java/lang/IndexOutOfBoundsException", name := "<init>", desc := "(Ljava/lang/String;)V" } : Jvm.MethodName) : Cond) ∈ wG := wGm 385 (by decide +kernel) (by decide +kernel)
theorem q386 : (Jvm.Cond.code ({ cls := "java/lang/IndexOutOfBoundsException", name := "<init>", desc := "(Ljava/lang/String;)V" } : Jvm.MethodName) prog_11_method_2_code (2 : Nat) (Option.none : Option Jvm.ClassFile.FieldType) : Cond) ∈ wG := wGm 386 (by decide +kernel) (by decide +kernel)
theorem q387 : (Jvm.Cond.methodLink "java/lang/IndexOutOfBoundsException" (7 : Nat) ({ cls := "java/lang/RuntimeException", name := "<init>", desc := "(Ljava/lang/String;)V" } : Jvm.MethodName) : Cond) ∈ wG := wGm 387 (by decide +kernel) (by decide +kernel)
theorem q388 : (Jvm.Cond.instanceMethod ({ cls := "java/lang/RuntimeException", name := "<init>", desc := "(Ljava/lang/String;)V" } : Jvm.MethodName) : Cond) ∈ wG := wGm 388 (by decide +kernel) (by decide +kernel)
theorem q389 : (Jvm.Cond.code ({ cls := "java/lang/RuntimeException", name := "<init>", desc := "(Ljava/lang/String;)V" } : Jvm.MethodName) prog_14_method_2_code (2 : Nat) (Option.none : Option Jvm.ClassFile.FieldType) : Cond) ∈ wG := wGm 389 (by decide +kernel) (by decide +kernel)
theorem q390 : (Jvm.Cond.methodLink "java/lang/RuntimeException" (7 : Nat) ({ cls := "java/lang/Exception", name := "<init>", desc := "(Ljava/lang/String;)V" } : Jvm.MethodName) : Cond) ∈ wG := wGm 390 (by decide +kernel) (by decide +kernel)
theorem q391 : (Jvm.Cond.instanceMethod ({ cls := "java/lang/Exception", name := "<init>", desc := "(Ljava/lang/String;)V" } : Jvm.MethodName) : Cond) ∈ wG := wGm 391 (by decide +kernel) (by decide +kernel)
theorem q392 : (Jvm.Cond.code ({ cls := "java/lang/Exception", name := "<init>", desc := "(Ljava/lang/String;)V" } : Jvm.MethodName) prog_8_method_2_code (2 : Nat) (Option.none : Option Jvm.ClassFile.FieldType) : Cond) ∈ wG := wGm 392 (by decide +kernel) (by decide +kernel)
theorem q393 : (Jvm.Cond.methodLink "java/lang/Exception" (7 : Nat) ({ cls := "java/lang/Throwable", name := "<init>", desc := "(Ljava/lang/String;)V" } : Jvm.MethodName) : Cond) ∈ wG := wGm 393 (by decide +kernel) (by decide +kernel)
theorem q394 : (Jvm.Cond.instanceMethod ({ cls := "java/lang/Throwable", name := "<init>", desc := "(Ljava/lang/String;)V" } : Jvm.MethodName) : Cond) ∈ wG := wGm 394 (by decide +kernel) (by decide +kernel)
theorem q395 : (Jvm.Cond.code ({ cls := "java/lang/Throwable", name := "<init>", desc := "(Ljava/lang/String;)V" } : Jvm.MethodName) prog_17_method_2_code (2 : Nat) (Option.none : Option Jvm.ClassFile.FieldType) : Cond) ∈ wG := wGm 395 (by decide +kernel) (by decide +kernel)
theorem q396 : (Jvm.Cond.fieldLink "java/lang/Throwable" (198 : Nat) "java/lang/Throwable" "backtrace" "Ljava/lang/Object;" : Cond) ∈ wG := wGm 396 (by decide +kernel) (by decide +kernel)
theorem q397 : (Jvm.Cond.fieldLink "java/lang/Throwable" (31 : Nat) "java/lang/Throwable" "detailMessage" "Ljava/lang/String;" : Cond) ∈ wG := wGm 397 (by decide +kernel) (by decide +kernel)
theorem q398 : (Jvm.Cond.fieldLink "java/lang/Throwable" (7 : Nat) "java/lang/Throwable" "cause" "Ljava/lang/Throwable;" : Cond) ∈ wG := wGm 398 (by decide +kernel) (by decide +kernel)
theorem q399 : (Jvm.Cond.fieldLink "java/lang/Throwable" (17 : Nat) "java/lang/Throwable" "stackTrace" "[Ljava/lang/StackTraceElement;" : Cond) ∈ wG := wGm 399 (by decide +kernel) (by decide +kernel)
theorem q400 : (Jvm.Cond.fieldLink "java/lang/Throwable" (24 : Nat) "java/lang/Throwable" "suppressedExceptions" "Ljava/util/List;" : Cond) ∈ wG := wGm 400 (by decide +kernel) (by decide +kernel)
theorem q401 : (Jvm.Cond.soleField "java/lang/Throwable" "backtrace" : Cond) ∈ wG := wGm 401 (by decide +kernel) (by decide +kernel)
theorem q402 : (Jvm.Cond.soleField "java/lang/Throwable" "detailMessage" : Cond) ∈ wG := wGm 402 (by decide +kernel) (by decide +kernel)
theorem q403 : (Jvm.Cond.soleField "java/lang/Throwable" "cause" : Cond) ∈ wG := wGm 403 (by decide +kernel) (by decide +kernel)
theorem q404 : (Jvm.Cond.soleField "java/lang/Throwable" "stackTrace" : Cond) ∈ wG := wGm 404 (by decide +kernel) (by decide +kernel)
theorem q405 : (Jvm.Cond.lays "java/lang/IndexOutOfBoundsException" "java/lang/Throwable" "depth" "I" : Cond) ∈ wG := wGm 405 (by decide +kernel) (by decide +kernel)
theorem q406 : (Jvm.Cond.soleField "java/lang/Throwable" "depth" : Cond) ∈ wG := wGm 406 (by decide +kernel) (by decide +kernel)
theorem q407 : (Jvm.Cond.soleField "java/lang/Throwable" "suppressedExceptions" : Cond) ∈ wG := wGm 407 (by decide +kernel) (by decide +kernel)
theorem q408 : (Jvm.Cond.superclass "java/lang/IndexOutOfBoundsException" "java/lang/RuntimeException" : Cond) ∈ wG := wGm 408 (by decide +kernel) (by decide +kernel)
theorem q409 : (Jvm.Cond.arrayClass Jvm.ClassFile.FieldType.byte : Cond) ∈ wG := wGm 409 (by decide +kernel) (by decide +kernel)
theorem q410 : (Jvm.Cond.classLink "ProcessMiner" (60 : Nat) "java/lang/IllegalStateException" : Cond) ∈ wG := wGm 410 (by decide +kernel) (by decide +kernel)
theorem q411 : (Jvm.Cond.instantiable "java/lang/IllegalStateException" (6 : Nat) : Cond) ∈ wG := wGm 411 (by decide +kernel) (by decide +kernel)
theorem q413 : (Jvm.Cond.selects "java/lang/IllegalStateException" ({ cls := "java/lang/Throwable", name := "fillInStackTrace", desc := "(I)Ljava/lang/Throwable;" } : Jvm.MethodName) ({ cls := "java/lang/Throwable", name := "fillInStackTrace", desc := "(I)Ljava/lang/Throwable;" } : Jvm.MethodName) : Cond) ∈ wG := wGm 413 (by decide +kernel) (by decide +kernel)
theorem q414 : (Jvm.Cond.lays "java/lang/IllegalStateException" "java/lang/Throwable" "cause" "Ljava/lang/Throwable;" : Cond) ∈ wG := wGm 414 (by decide +kernel) (by decide +kernel)
theorem q415 : (Jvm.Cond.lays "java/lang/IllegalStateException" "java/lang/Throwable" "stackTrace" "[Ljava/lang/StackTraceElement;" : Cond) ∈ wG := wGm 415 (by decide +kernel) (by decide +kernel)
theorem q416 : (Jvm.Cond.lays "java/lang/IllegalStateException" "java/lang/Throwable" "suppressedExceptions" "Ljava/util/List;" : Cond) ∈ wG := wGm 416 (by decide +kernel) (by decide +kernel)
theorem q417 : (Jvm.Cond.lays "java/lang/IllegalStateException" "java/lang/Throwable" "detailMessage" "Ljava/lang/String;" : Cond) ∈ wG := wGm 417 (by decide +kernel) (by decide +kernel)
theorem q418 : (Jvm.Cond.lays "java/lang/IllegalStateException" "java/lang/Throwable" "backtrace" "Ljava/lang/Object;" : Cond) ∈ wG := wGm 418 (by decide +kernel) (by decide +kernel)
theorem q420 : (Jvm.Cond.methodLink "ProcessMiner" (64 : Nat) ({ cls := "java/lang/IllegalStateException", name := "<init>", desc := "(Ljava/lang/String;)V" } : Jvm.MethodName) : Cond) ∈ wG := wGm 420 (by decide +kernel) (by decide +kernel)
theorem q421 : (Jvm.Cond.instanceMethod ({ cls := "java/lang/IllegalStateException", name := "<init>", desc := "(Ljava/lang/String;)V" } : Jvm.MethodName) : Cond) ∈ wG := wGm 421 (by decide +kernel) (by decide +kernel)
theorem q422 : (Jvm.Cond.code ({ cls := "java/lang/IllegalStateException", name := "<init>", desc := "(Ljava/lang/String;)V" } : Jvm.MethodName) prog_10_method_2_code (2 : Nat) (Option.none : Option Jvm.ClassFile.FieldType) : Cond) ∈ wG := wGm 422 (by decide +kernel) (by decide +kernel)
theorem q423 : (Jvm.Cond.methodLink "java/lang/IllegalStateException" (7 : Nat) ({ cls := "java/lang/RuntimeException", name := "<init>", desc := "(Ljava/lang/String;)V" } : Jvm.MethodName) : Cond) ∈ wG := wGm 423 (by decide +kernel) (by decide +kernel)
theorem q424 : (Jvm.Cond.lays "java/lang/IllegalStateException" "java/lang/Throwable" "depth" "I" : Cond) ∈ wG := wGm 424 (by decide +kernel) (by decide +kernel)
theorem q425 : (Jvm.Cond.superclass "java/lang/IllegalStateException" "java/lang/RuntimeException" : Cond) ∈ wG := wGm 425 (by decide +kernel) (by decide +kernel)
theorem q426 : (Jvm.Cond.methodLink "ProcessMinerLaw" (95 : Nat) ({ cls := "ProcessMinerLaw", name := "endTrace", desc := "(LProcessMiner;I[J)I" } : Jvm.MethodName) : Cond) ∈ wG := wGm 426 (by decide +kernel) (by decide +kernel)
theorem q427 : (Jvm.Cond.static ({ cls := "ProcessMinerLaw", name := "endTrace", desc := "(LProcessMiner;I[J)I" } : Jvm.MethodName) : Cond) ∈ wG := wGm 427 (by decide +kernel) (by decide +kernel)
theorem q428 : (Jvm.Cond.codeWith ({ cls := "ProcessMinerLaw", name := "endTrace", desc := "(LProcessMiner;I[J)I" } : Jvm.MethodName) method_4_code (4 : Nat) (Option.some Jvm.ClassFile.FieldType.int) [((0 : Nat), (9 : Nat), (12 : Nat), (20 : Nat)), ((0 : Nat), (9 : Nat), (15 : Nat), (15 : Nat))] : Cond) ∈ wG := wGm 428 (by decide +kernel) (by decide +kernel)
theorem q429 : (Jvm.Cond.classLink "ProcessMinerLaw" (20 : Nat) "java/lang/IllegalArgumentException" : Cond) ∈ wG := wGm 429 (by decide +kernel) (by decide +kernel)
theorem q430 : (Jvm.Cond.methodLink "ProcessMinerLaw" (17 : Nat) ({ cls := "ProcessMiner", name := "endTrace", desc := "(I)I" } : Jvm.MethodName) : Cond) ∈ wG := wGm 430 (by decide +kernel) (by decide +kernel)
theorem q431 : (Jvm.Cond.instanceMethod ({ cls := "ProcessMiner", name := "endTrace", desc := "(I)I" } : Jvm.MethodName) : Cond) ∈ wG := wGm 431 (by decide +kernel) (by decide +kernel)
theorem q432 : (Jvm.Cond.selects "ProcessMiner" ({ cls := "ProcessMiner", name := "endTrace", desc := "(I)I" } : Jvm.MethodName) ({ cls := "ProcessMiner", name := "endTrace", desc := "(I)I" } : Jvm.MethodName) : Cond) ∈ wG := wGm 432 (by decide +kernel) (by decide +kernel)
theorem q433 : (Jvm.Cond.code ({ cls := "ProcessMiner", name := "endTrace", desc := "(I)I" } : Jvm.MethodName) prog_1_method_3_code (4 : Nat) (Option.some Jvm.ClassFile.FieldType.int) : Cond) ∈ wG := wGm 433 (by decide +kernel) (by decide +kernel)
theorem q434 : (Jvm.Cond.methodLink "ProcessMiner" (67 : Nat) ({ cls := "ProcessMiner", name := "checkTimes", desc := "(I)V" } : Jvm.MethodName) : Cond) ∈ wG := wGm 434 (by decide +kernel) (by decide +kernel)
theorem q435 : (Jvm.Cond.static ({ cls := "ProcessMiner", name := "checkTimes", desc := "(I)V" } : Jvm.MethodName) : Cond) ∈ wG := wGm 435 (by decide +kernel) (by decide +kernel)
theorem q436 : (Jvm.Cond.code ({ cls := "ProcessMiner", name := "checkTimes", desc := "(I)V" } : Jvm.MethodName) prog_1_method_29_code (1 : Nat) (Option.none : Option Jvm.ClassFile.FieldType) : Cond) ∈ wG := wGm 436 (by decide +kernel) (by decide +kernel)
theorem q437 : (Jvm.Cond.classLink "ProcessMiner" (159 : Nat) "java/lang/IllegalArgumentException" : Cond) ∈ wG := wGm 437 (by decide +kernel) (by decide +kernel)
theorem q438 : (Jvm.Cond.instantiable "java/lang/IllegalArgumentException" (6 : Nat) : Cond) ∈ wG := wGm 438 (by decide +kernel) (by decide +kernel)
theorem q440 : (Jvm.Cond.selects "java/lang/IllegalArgumentException" ({ cls := "java/lang/Throwable", name := "fillInStackTrace", desc := "(I)Ljava/lang/Throwable;" } : Jvm.MethodName) ({ cls := "java/lang/Throwable", name := "fillInStackTrace", desc := "(I)Ljava/lang/Throwable;" } : Jvm.MethodName) : Cond) ∈ wG := wGm 440 (by decide +kernel) (by decide +kernel)
theorem q441 : (Jvm.Cond.lays "java/lang/IllegalArgumentException" "java/lang/Throwable" "cause" "Ljava/lang/Throwable;" : Cond) ∈ wG := wGm 441 (by decide +kernel) (by decide +kernel)
theorem q442 : (Jvm.Cond.lays "java/lang/IllegalArgumentException" "java/lang/Throwable" "stackTrace" "[Ljava/lang/StackTraceElement;" : Cond) ∈ wG := wGm 442 (by decide +kernel) (by decide +kernel)
theorem q443 : (Jvm.Cond.lays "java/lang/IllegalArgumentException" "java/lang/Throwable" "suppressedExceptions" "Ljava/util/List;" : Cond) ∈ wG := wGm 443 (by decide +kernel) (by decide +kernel)
theorem q444 : (Jvm.Cond.lays "java/lang/IllegalArgumentException" "java/lang/Throwable" "detailMessage" "Ljava/lang/String;" : Cond) ∈ wG := wGm 444 (by decide +kernel) (by decide +kernel)
theorem q445 : (Jvm.Cond.lays "java/lang/IllegalArgumentException" "java/lang/Throwable" "backtrace" "Ljava/lang/Object;" : Cond) ∈ wG := wGm 445 (by decide +kernel) (by decide +kernel)
theorem q447 : (Jvm.Cond.methodLink "ProcessMiner" (163 : Nat) ({ cls := "java/lang/IllegalArgumentException", name := "<init>", desc := "(Ljava/lang/String;)V" } : Jvm.MethodName) : Cond) ∈ wG := wGm 447 (by decide +kernel) (by decide +kernel)
theorem q448 : (Jvm.Cond.instanceMethod ({ cls := "java/lang/IllegalArgumentException", name := "<init>", desc := "(Ljava/lang/String;)V" } : Jvm.MethodName) : Cond) ∈ wG := wGm 448 (by decide +kernel) (by decide +kernel)
theorem q449 : (Jvm.Cond.code ({ cls := "java/lang/IllegalArgumentException", name := "<init>", desc := "(Ljava/lang/String;)V" } : Jvm.MethodName) prog_9_method_2_code (2 : Nat) (Option.none : Option Jvm.ClassFile.FieldType) : Cond) ∈ wG := wGm 449 (by decide +kernel) (by decide +kernel)
theorem q450 : (Jvm.Cond.methodLink "java/lang/IllegalArgumentException" (7 : Nat) ({ cls := "java/lang/RuntimeException", name := "<init>", desc := "(Ljava/lang/String;)V" } : Jvm.MethodName) : Cond) ∈ wG := wGm 450 (by decide +kernel) (by decide +kernel)
theorem q451 : (Jvm.Cond.lays "java/lang/IllegalArgumentException" "java/lang/Throwable" "depth" "I" : Cond) ∈ wG := wGm 451 (by decide +kernel) (by decide +kernel)
theorem q452 : (Jvm.Cond.superclass "java/lang/IllegalArgumentException" "java/lang/RuntimeException" : Cond) ∈ wG := wGm 452 (by decide +kernel) (by decide +kernel)
theorem q454 : (Jvm.Cond.methodLink "ProcessMinerLaw" (98 : Nat) ({ cls := "ProcessMinerLaw", name := "setTimes", desc := "(LProcessMiner;II[J)I" } : Jvm.MethodName) : Cond) ∈ wG := wGm 454 (by decide +kernel) (by decide +kernel)
theorem q455 : (Jvm.Cond.static ({ cls := "ProcessMinerLaw", name := "setTimes", desc := "(LProcessMiner;II[J)I" } : Jvm.MethodName) : Cond) ∈ wG := wGm 455 (by decide +kernel) (by decide +kernel)
theorem q456 : (Jvm.Cond.codeWith ({ cls := "ProcessMinerLaw", name := "setTimes", desc := "(LProcessMiner;II[J)I" } : Jvm.MethodName) method_5_code (5 : Nat) (Option.some Jvm.ClassFile.FieldType.int) [((0 : Nat), (10 : Nat), (13 : Nat), (13 : Nat)), ((0 : Nat), (10 : Nat), (17 : Nat), (20 : Nat))] : Cond) ∈ wG := wGm 456 (by decide +kernel) (by decide +kernel)
theorem q457 : (Jvm.Cond.methodLink "ProcessMinerLaw" (22 : Nat) ({ cls := "ProcessMiner", name := "setTimes", desc := "(II)I" } : Jvm.MethodName) : Cond) ∈ wG := wGm 457 (by decide +kernel) (by decide +kernel)
theorem q458 : (Jvm.Cond.instanceMethod ({ cls := "ProcessMiner", name := "setTimes", desc := "(II)I" } : Jvm.MethodName) : Cond) ∈ wG := wGm 458 (by decide +kernel) (by decide +kernel)
theorem q459 : (Jvm.Cond.selects "ProcessMiner" ({ cls := "ProcessMiner", name := "setTimes", desc := "(II)I" } : Jvm.MethodName) ({ cls := "ProcessMiner", name := "setTimes", desc := "(II)I" } : Jvm.MethodName) : Cond) ∈ wG := wGm 459 (by decide +kernel) (by decide +kernel)
theorem q460 : (Jvm.Cond.code ({ cls := "ProcessMiner", name := "setTimes", desc := "(II)I" } : Jvm.MethodName) prog_1_method_4_code (4 : Nat) (Option.some Jvm.ClassFile.FieldType.int) : Cond) ∈ wG := wGm 460 (by decide +kernel) (by decide +kernel)
theorem q461 : (Jvm.Cond.methodLink "ProcessMiner" (72 : Nat) ({ cls := "ProcessMiner", name := "checkTrace", desc := "(I)V" } : Jvm.MethodName) : Cond) ∈ wG := wGm 461 (by decide +kernel) (by decide +kernel)
theorem q463 : (Jvm.Cond.instanceMethod ({ cls := "ProcessMiner", name := "checkTrace", desc := "(I)V" } : Jvm.MethodName) : Cond) ∈ wG := wGm 463 (by decide +kernel) (by decide +kernel)
theorem q464 : (Jvm.Cond.code ({ cls := "ProcessMiner", name := "checkTrace", desc := "(I)V" } : Jvm.MethodName) prog_1_method_30_code (2 : Nat) (Option.none : Option Jvm.ClassFile.FieldType) : Cond) ∈ wG := wGm 464 (by decide +kernel) (by decide +kernel)
theorem q466 : (Jvm.Cond.methodLink "ProcessMinerLaw" (102 : Nat) ({ cls := "ProcessMinerLaw", name := "dropTrace", desc := "(LProcessMiner;[J)I" } : Jvm.MethodName) : Cond) ∈ wG := wGm 466 (by decide +kernel) (by decide +kernel)
theorem q467 : (Jvm.Cond.static ({ cls := "ProcessMinerLaw", name := "dropTrace", desc := "(LProcessMiner;[J)I" } : Jvm.MethodName) : Cond) ∈ wG := wGm 467 (by decide +kernel) (by decide +kernel)
theorem q468 : (Jvm.Cond.codeWith ({ cls := "ProcessMinerLaw", name := "dropTrace", desc := "(LProcessMiner;[J)I" } : Jvm.MethodName) method_6_code (3 : Nat) (Option.some Jvm.ClassFile.FieldType.int) [((0 : Nat), (8 : Nat), (11 : Nat), (15 : Nat))] : Cond) ∈ wG := wGm 468 (by decide +kernel) (by decide +kernel)
theorem q469 : (Jvm.Cond.methodLink "ProcessMinerLaw" (26 : Nat) ({ cls := "ProcessMiner", name := "dropTrace", desc := "()I" } : Jvm.MethodName) : Cond) ∈ wG := wGm 469 (by decide +kernel) (by decide +kernel)
theorem q470 : (Jvm.Cond.instanceMethod ({ cls := "ProcessMiner", name := "dropTrace", desc := "()I" } : Jvm.MethodName) : Cond) ∈ wG := wGm 470 (by decide +kernel) (by decide +kernel)
theorem q471 : (Jvm.Cond.selects "ProcessMiner" ({ cls := "ProcessMiner", name := "dropTrace", desc := "()I" } : Jvm.MethodName) ({ cls := "ProcessMiner", name := "dropTrace", desc := "()I" } : Jvm.MethodName) : Cond) ∈ wG := wGm 471 (by decide +kernel) (by decide +kernel)
theorem q472 : (Jvm.Cond.code ({ cls := "ProcessMiner", name := "dropTrace", desc := "()I" } : Jvm.MethodName) prog_1_method_5_code (1 : Nat) (Option.some Jvm.ClassFile.FieldType.int) : Cond) ∈ wG := wGm 472 (by decide +kernel) (by decide +kernel)
theorem q474 : (Jvm.Cond.methodLink "ProcessMinerLaw" (110 : Nat) ({ cls := "ProcessMinerLaw", name := "length", desc := "(LProcessMiner;I[J)I" } : Jvm.MethodName) : Cond) ∈ wG := wGm 474 (by decide +kernel) (by decide +kernel)
theorem q475 : (Jvm.Cond.static ({ cls := "ProcessMinerLaw", name := "length", desc := "(LProcessMiner;I[J)I" } : Jvm.MethodName) : Cond) ∈ wG := wGm 475 (by decide +kernel) (by decide +kernel)
theorem q476 : (Jvm.Cond.codeWith ({ cls := "ProcessMinerLaw", name := "length", desc := "(LProcessMiner;I[J)I" } : Jvm.MethodName) method_7_code (4 : Nat) (Option.some Jvm.ClassFile.FieldType.int) [((0 : Nat), (9 : Nat), (12 : Nat), (13 : Nat))] : Cond) ∈ wG := wGm 476 (by decide +kernel) (by decide +kernel)
theorem q477 : (Jvm.Cond.methodLink "ProcessMinerLaw" (30 : Nat) ({ cls := "ProcessMiner", name := "length", desc := "(I)I" } : Jvm.MethodName) : Cond) ∈ wG := wGm 477 (by decide +kernel) (by decide +kernel)
theorem q478 : (Jvm.Cond.instanceMethod ({ cls := "ProcessMiner", name := "length", desc := "(I)I" } : Jvm.MethodName) : Cond) ∈ wG := wGm 478 (by decide +kernel) (by decide +kernel)
theorem q479 : (Jvm.Cond.selects "ProcessMiner" ({ cls := "ProcessMiner", name := "length", desc := "(I)I" } : Jvm.MethodName) ({ cls := "ProcessMiner", name := "length", desc := "(I)I" } : Jvm.MethodName) : Cond) ∈ wG := wGm 479 (by decide +kernel) (by decide +kernel)
theorem q480 : (Jvm.Cond.code ({ cls := "ProcessMiner", name := "length", desc := "(I)I" } : Jvm.MethodName) prog_1_method_7_code (2 : Nat) (Option.some Jvm.ClassFile.FieldType.int) : Cond) ∈ wG := wGm 480 (by decide +kernel) (by decide +kernel)
theorem q481 : (Jvm.Cond.methodLink "ProcessMinerLaw" (113 : Nat) ({ cls := "ProcessMinerLaw", name := "labelAt", desc := "(LProcessMiner;II[J)I" } : Jvm.MethodName) : Cond) ∈ wG := wGm 481 (by decide +kernel) (by decide +kernel)
theorem q482 : (Jvm.Cond.static ({ cls := "ProcessMinerLaw", name := "labelAt", desc := "(LProcessMiner;II[J)I" } : Jvm.MethodName) : Cond) ∈ wG := wGm 482 (by decide +kernel) (by decide +kernel)
theorem q483 : (Jvm.Cond.codeWith ({ cls := "ProcessMinerLaw", name := "labelAt", desc := "(LProcessMiner;II[J)I" } : Jvm.MethodName) method_8_code (5 : Nat) (Option.some Jvm.ClassFile.FieldType.int) [((0 : Nat), (10 : Nat), (13 : Nat), (13 : Nat))] : Cond) ∈ wG := wGm 483 (by decide +kernel) (by decide +kernel)
theorem q484 : (Jvm.Cond.methodLink "ProcessMinerLaw" (33 : Nat) ({ cls := "ProcessMiner", name := "labelAt", desc := "(II)I" } : Jvm.MethodName) : Cond) ∈ wG := wGm 484 (by decide +kernel) (by decide +kernel)
theorem q485 : (Jvm.Cond.instanceMethod ({ cls := "ProcessMiner", name := "labelAt", desc := "(II)I" } : Jvm.MethodName) : Cond) ∈ wG := wGm 485 (by decide +kernel) (by decide +kernel)
theorem q486 : (Jvm.Cond.selects "ProcessMiner" ({ cls := "ProcessMiner", name := "labelAt", desc := "(II)I" } : Jvm.MethodName) ({ cls := "ProcessMiner", name := "labelAt", desc := "(II)I" } : Jvm.MethodName) : Cond) ∈ wG := wGm 486 (by decide +kernel) (by decide +kernel)
theorem q487 : (Jvm.Cond.code ({ cls := "ProcessMiner", name := "labelAt", desc := "(II)I" } : Jvm.MethodName) prog_1_method_8_code (3 : Nat) (Option.some Jvm.ClassFile.FieldType.int) : Cond) ∈ wG := wGm 487 (by decide +kernel) (by decide +kernel)
theorem q489 : (Jvm.Cond.methodLink "ProcessMinerLaw" (120 : Nat) ({ cls := "ProcessMinerLaw", name := "follows", desc := "(LProcessMiner;II[J)I" } : Jvm.MethodName) : Cond) ∈ wG := wGm 489 (by decide +kernel) (by decide +kernel)
theorem q490 : (Jvm.Cond.static ({ cls := "ProcessMinerLaw", name := "follows", desc := "(LProcessMiner;II[J)I" } : Jvm.MethodName) : Cond) ∈ wG := wGm 490 (by decide +kernel) (by decide +kernel)
theorem q491 : (Jvm.Cond.codeWith ({ cls := "ProcessMinerLaw", name := "follows", desc := "(LProcessMiner;II[J)I" } : Jvm.MethodName) method_9_code (5 : Nat) (Option.some Jvm.ClassFile.FieldType.int) [((0 : Nat), (10 : Nat), (13 : Nat), (13 : Nat))] : Cond) ∈ wG := wGm 491 (by decide +kernel) (by decide +kernel)
theorem q492 : (Jvm.Cond.methodLink "ProcessMinerLaw" (36 : Nat) ({ cls := "ProcessMiner", name := "follows", desc := "(II)I" } : Jvm.MethodName) : Cond) ∈ wG := wGm 492 (by decide +kernel) (by decide +kernel)
theorem q493 : (Jvm.Cond.instanceMethod ({ cls := "ProcessMiner", name := "follows", desc := "(II)I" } : Jvm.MethodName) : Cond) ∈ wG := wGm 493 (by decide +kernel) (by decide +kernel)
theorem q494 : (Jvm.Cond.selects "ProcessMiner" ({ cls := "ProcessMiner", name := "follows", desc := "(II)I" } : Jvm.MethodName) ({ cls := "ProcessMiner", name := "follows", desc := "(II)I" } : Jvm.MethodName) : Cond) ∈ wG := wGm 494 (by decide +kernel) (by decide +kernel)
theorem q495 : (Jvm.Cond.code ({ cls := "ProcessMiner", name := "follows", desc := "(II)I" } : Jvm.MethodName) prog_1_method_10_code (5 : Nat) (Option.some Jvm.ClassFile.FieldType.int) : Cond) ∈ wG := wGm 495 (by decide +kernel) (by decide +kernel)
theorem q496 : (Jvm.Cond.methodLink "ProcessMiner" (89 : Nat) ({ cls := "ProcessMiner", name := "countPairs", desc := "(III)I" } : Jvm.MethodName) : Cond) ∈ wG := wGm 496 (by decide +kernel) (by decide +kernel)
theorem q498 : (Jvm.Cond.instanceMethod ({ cls := "ProcessMiner", name := "countPairs", desc := "(III)I" } : Jvm.MethodName) : Cond) ∈ wG := wGm 498 (by decide +kernel) (by decide +kernel)
theorem q499 : (Jvm.Cond.code ({ cls := "ProcessMiner", name := "countPairs", desc := "(III)I" } : Jvm.MethodName) prog_1_method_34_code (7 : Nat) (Option.some Jvm.ClassFile.FieldType.int) : Cond) ∈ wG := wGm 499 (by decide +kernel) (by decide +kernel)
theorem q500 : (Jvm.Cond.methodLink "ProcessMinerLaw" (128 : Nat) ({ cls := "ProcessMinerLaw", name := "relation", desc := "(LProcessMiner;II[J)I" } : Jvm.MethodName) : Cond) ∈ wG := wGm 500 (by decide +kernel) (by decide +kernel)
theorem q501 : (Jvm.Cond.static ({ cls := "ProcessMinerLaw", name := "relation", desc := "(LProcessMiner;II[J)I" } : Jvm.MethodName) : Cond) ∈ wG := wGm 501 (by decide +kernel) (by decide +kernel)
theorem q502 : (Jvm.Cond.codeWith ({ cls := "ProcessMinerLaw", name := "relation", desc := "(LProcessMiner;II[J)I" } : Jvm.MethodName) method_10_code (5 : Nat) (Option.some Jvm.ClassFile.FieldType.int) [((0 : Nat), (10 : Nat), (13 : Nat), (13 : Nat))] : Cond) ∈ wG := wGm 502 (by decide +kernel) (by decide +kernel)
theorem q503 : (Jvm.Cond.methodLink "ProcessMinerLaw" (39 : Nat) ({ cls := "ProcessMiner", name := "relation", desc := "(II)I" } : Jvm.MethodName) : Cond) ∈ wG := wGm 503 (by decide +kernel) (by decide +kernel)
theorem q504 : (Jvm.Cond.instanceMethod ({ cls := "ProcessMiner", name := "relation", desc := "(II)I" } : Jvm.MethodName) : Cond) ∈ wG := wGm 504 (by decide +kernel) (by decide +kernel)
theorem q505 : (Jvm.Cond.selects "ProcessMiner" ({ cls := "ProcessMiner", name := "relation", desc := "(II)I" } : Jvm.MethodName) ({ cls := "ProcessMiner", name := "relation", desc := "(II)I" } : Jvm.MethodName) : Cond) ∈ wG := wGm 505 (by decide +kernel) (by decide +kernel)
theorem q506 : (Jvm.Cond.code ({ cls := "ProcessMiner", name := "relation", desc := "(II)I" } : Jvm.MethodName) prog_1_method_12_code (6 : Nat) (Option.some Jvm.ClassFile.FieldType.int) : Cond) ∈ wG := wGm 506 (by decide +kernel) (by decide +kernel)
theorem q507 : (Jvm.Cond.methodLink "ProcessMiner" (102 : Nat) ({ cls := "ProcessMiner", name := "contains", desc := "(II)Z" } : Jvm.MethodName) : Cond) ∈ wG := wGm 507 (by decide +kernel) (by decide +kernel)
theorem q508 : (Jvm.Cond.methodLink "ProcessMinerLaw" (131 : Nat) ({ cls := "ProcessMinerLaw", name := "leads", desc := "(LProcessMiner;II[J)I" } : Jvm.MethodName) : Cond) ∈ wG := wGm 508 (by decide +kernel) (by decide +kernel)
theorem q509 : (Jvm.Cond.static ({ cls := "ProcessMinerLaw", name := "leads", desc := "(LProcessMiner;II[J)I" } : Jvm.MethodName) : Cond) ∈ wG := wGm 509 (by decide +kernel) (by decide +kernel)
theorem q510 : (Jvm.Cond.codeWith ({ cls := "ProcessMinerLaw", name := "leads", desc := "(LProcessMiner;II[J)I" } : Jvm.MethodName) method_11_code (5 : Nat) (Option.some Jvm.ClassFile.FieldType.int) [((0 : Nat), (17 : Nat), (20 : Nat), (13 : Nat))] : Cond) ∈ wG := wGm 510 (by decide +kernel) (by decide +kernel)
theorem q511 : (Jvm.Cond.methodLink "ProcessMinerLaw" (42 : Nat) ({ cls := "ProcessMiner", name := "leads", desc := "(II)Z" } : Jvm.MethodName) : Cond) ∈ wG := wGm 511 (by decide +kernel) (by decide +kernel)
theorem q512 : (Jvm.Cond.instanceMethod ({ cls := "ProcessMiner", name := "leads", desc := "(II)Z" } : Jvm.MethodName) : Cond) ∈ wG := wGm 512 (by decide +kernel) (by decide +kernel)
theorem q513 : (Jvm.Cond.selects "ProcessMiner" ({ cls := "ProcessMiner", name := "leads", desc := "(II)Z" } : Jvm.MethodName) ({ cls := "ProcessMiner", name := "leads", desc := "(II)Z" } : Jvm.MethodName) : Cond) ∈ wG := wGm 513 (by decide +kernel) (by decide +kernel)
theorem q514 : (Jvm.Cond.code ({ cls := "ProcessMiner", name := "leads", desc := "(II)Z" } : Jvm.MethodName) prog_1_method_13_code (4 : Nat) (Option.some Jvm.ClassFile.FieldType.boolean) : Cond) ∈ wG := wGm 514 (by decide +kernel) (by decide +kernel)
theorem q515 : (Jvm.Cond.methodLink "ProcessMiner" (106 : Nat) ({ cls := "ProcessMiner$Log", name := "findReach", desc := "()V" } : Jvm.MethodName) : Cond) ∈ wG := wGm 515 (by decide +kernel) (by decide +kernel)
theorem q516 : (Jvm.Cond.methodLink "ProcessMinerLaw" (142 : Nat) ({ cls := "ProcessMinerLaw", name := "kind", desc := "(LProcessMiner;I[J)I" } : Jvm.MethodName) : Cond) ∈ wG := wGm 516 (by decide +kernel) (by decide +kernel)
theorem q517 : (Jvm.Cond.static ({ cls := "ProcessMinerLaw", name := "kind", desc := "(LProcessMiner;I[J)I" } : Jvm.MethodName) : Cond) ∈ wG := wGm 517 (by decide +kernel) (by decide +kernel)
theorem q518 : (Jvm.Cond.codeWith ({ cls := "ProcessMinerLaw", name := "kind", desc := "(LProcessMiner;I[J)I" } : Jvm.MethodName) method_12_code (4 : Nat) (Option.some Jvm.ClassFile.FieldType.int) [((0 : Nat), (9 : Nat), (12 : Nat), (15 : Nat)), ((0 : Nat), (9 : Nat), (15 : Nat), (13 : Nat))] : Cond) ∈ wG := wGm 518 (by decide +kernel) (by decide +kernel)
theorem q519 : (Jvm.Cond.methodLink "ProcessMinerLaw" (46 : Nat) ({ cls := "ProcessMiner", name := "kind", desc := "(I)I" } : Jvm.MethodName) : Cond) ∈ wG := wGm 519 (by decide +kernel) (by decide +kernel)
theorem q520 : (Jvm.Cond.instanceMethod ({ cls := "ProcessMiner", name := "kind", desc := "(I)I" } : Jvm.MethodName) : Cond) ∈ wG := wGm 520 (by decide +kernel) (by decide +kernel)
theorem q521 : (Jvm.Cond.selects "ProcessMiner" ({ cls := "ProcessMiner", name := "kind", desc := "(I)I" } : Jvm.MethodName) ({ cls := "ProcessMiner", name := "kind", desc := "(I)I" } : Jvm.MethodName) : Cond) ∈ wG := wGm 521 (by decide +kernel) (by decide +kernel)
theorem q522 : (Jvm.Cond.code ({ cls := "ProcessMiner", name := "kind", desc := "(I)I" } : Jvm.MethodName) prog_1_method_16_code (2 : Nat) (Option.some Jvm.ClassFile.FieldType.int) : Cond) ∈ wG := wGm 522 (by decide +kernel) (by decide +kernel)
theorem q523 : (Jvm.Cond.methodLink "ProcessMiner" (123 : Nat) ({ cls := "ProcessMiner", name := "checkNode", desc := "(I)V" } : Jvm.MethodName) : Cond) ∈ wG := wGm 523 (by decide +kernel) (by decide +kernel)
theorem q525 : (Jvm.Cond.instanceMethod ({ cls := "ProcessMiner", name := "checkNode", desc := "(I)V" } : Jvm.MethodName) : Cond) ∈ wG := wGm 525 (by decide +kernel) (by decide +kernel)
theorem q526 : (Jvm.Cond.code ({ cls := "ProcessMiner", name := "checkNode", desc := "(I)V" } : Jvm.MethodName) prog_1_method_32_code (2 : Nat) (Option.none : Option Jvm.ClassFile.FieldType) : Cond) ∈ wG := wGm 526 (by decide +kernel) (by decide +kernel)
theorem q527 : (Jvm.Cond.methodLink "ProcessMiner" (148 : Nat) ({ cls := "ProcessMiner", name := "checkMined", desc := "()V" } : Jvm.MethodName) : Cond) ∈ wG := wGm 527 (by decide +kernel) (by decide +kernel)
theorem q529 : (Jvm.Cond.instanceMethod ({ cls := "ProcessMiner", name := "checkMined", desc := "()V" } : Jvm.MethodName) : Cond) ∈ wG := wGm 529 (by decide +kernel) (by decide +kernel)
theorem q530 : (Jvm.Cond.code ({ cls := "ProcessMiner", name := "checkMined", desc := "()V" } : Jvm.MethodName) prog_1_method_31_code (1 : Nat) (Option.none : Option Jvm.ClassFile.FieldType) : Cond) ∈ wG := wGm 530 (by decide +kernel) (by decide +kernel)
theorem q533 : (Jvm.Cond.methodLink "ProcessMinerLaw" (145 : Nat) ({ cls := "ProcessMinerLaw", name := "labelsOf", desc := "(LProcessMiner;I[J)I" } : Jvm.MethodName) : Cond) ∈ wG := wGm 533 (by decide +kernel) (by decide +kernel)
theorem q534 : (Jvm.Cond.static ({ cls := "ProcessMinerLaw", name := "labelsOf", desc := "(LProcessMiner;I[J)I" } : Jvm.MethodName) : Cond) ∈ wG := wGm 534 (by decide +kernel) (by decide +kernel)
theorem q535 : (Jvm.Cond.codeWith ({ cls := "ProcessMinerLaw", name := "labelsOf", desc := "(LProcessMiner;I[J)I" } : Jvm.MethodName) method_13_code (4 : Nat) (Option.some Jvm.ClassFile.FieldType.int) [((0 : Nat), (9 : Nat), (12 : Nat), (15 : Nat)), ((0 : Nat), (9 : Nat), (15 : Nat), (13 : Nat))] : Cond) ∈ wG := wGm 535 (by decide +kernel) (by decide +kernel)
theorem q536 : (Jvm.Cond.methodLink "ProcessMinerLaw" (49 : Nat) ({ cls := "ProcessMiner", name := "labelsOf", desc := "(I)I" } : Jvm.MethodName) : Cond) ∈ wG := wGm 536 (by decide +kernel) (by decide +kernel)
theorem q537 : (Jvm.Cond.instanceMethod ({ cls := "ProcessMiner", name := "labelsOf", desc := "(I)I" } : Jvm.MethodName) : Cond) ∈ wG := wGm 537 (by decide +kernel) (by decide +kernel)
theorem q538 : (Jvm.Cond.selects "ProcessMiner" ({ cls := "ProcessMiner", name := "labelsOf", desc := "(I)I" } : Jvm.MethodName) ({ cls := "ProcessMiner", name := "labelsOf", desc := "(I)I" } : Jvm.MethodName) : Cond) ∈ wG := wGm 538 (by decide +kernel) (by decide +kernel)
theorem q539 : (Jvm.Cond.code ({ cls := "ProcessMiner", name := "labelsOf", desc := "(I)I" } : Jvm.MethodName) prog_1_method_17_code (2 : Nat) (Option.some Jvm.ClassFile.FieldType.int) : Cond) ∈ wG := wGm 539 (by decide +kernel) (by decide +kernel)
theorem q540 : (Jvm.Cond.methodLink "ProcessMinerLaw" (148 : Nat) ({ cls := "ProcessMinerLaw", name := "parent", desc := "(LProcessMiner;I[J)I" } : Jvm.MethodName) : Cond) ∈ wG := wGm 540 (by decide +kernel) (by decide +kernel)
theorem q541 : (Jvm.Cond.static ({ cls := "ProcessMinerLaw", name := "parent", desc := "(LProcessMiner;I[J)I" } : Jvm.MethodName) : Cond) ∈ wG := wGm 541 (by decide +kernel) (by decide +kernel)
theorem q542 : (Jvm.Cond.codeWith ({ cls := "ProcessMinerLaw", name := "parent", desc := "(LProcessMiner;I[J)I" } : Jvm.MethodName) method_14_code (4 : Nat) (Option.some Jvm.ClassFile.FieldType.int) [((0 : Nat), (9 : Nat), (12 : Nat), (15 : Nat)), ((0 : Nat), (9 : Nat), (15 : Nat), (13 : Nat))] : Cond) ∈ wG := wGm 542 (by decide +kernel) (by decide +kernel)
theorem q543 : (Jvm.Cond.methodLink "ProcessMinerLaw" (52 : Nat) ({ cls := "ProcessMiner", name := "parent", desc := "(I)I" } : Jvm.MethodName) : Cond) ∈ wG := wGm 543 (by decide +kernel) (by decide +kernel)
theorem q544 : (Jvm.Cond.instanceMethod ({ cls := "ProcessMiner", name := "parent", desc := "(I)I" } : Jvm.MethodName) : Cond) ∈ wG := wGm 544 (by decide +kernel) (by decide +kernel)
theorem q545 : (Jvm.Cond.selects "ProcessMiner" ({ cls := "ProcessMiner", name := "parent", desc := "(I)I" } : Jvm.MethodName) ({ cls := "ProcessMiner", name := "parent", desc := "(I)I" } : Jvm.MethodName) : Cond) ∈ wG := wGm 545 (by decide +kernel) (by decide +kernel)
theorem q546 : (Jvm.Cond.code ({ cls := "ProcessMiner", name := "parent", desc := "(I)I" } : Jvm.MethodName) prog_1_method_18_code (2 : Nat) (Option.some Jvm.ClassFile.FieldType.int) : Cond) ∈ wG := wGm 546 (by decide +kernel) (by decide +kernel)
theorem q547 : (Jvm.Cond.methodLink "ProcessMinerLaw" (151 : Nat) ({ cls := "ProcessMinerLaw", name := "children", desc := "(LProcessMiner;I[J)I" } : Jvm.MethodName) : Cond) ∈ wG := wGm 547 (by decide +kernel) (by decide +kernel)
theorem q548 : (Jvm.Cond.static ({ cls := "ProcessMinerLaw", name := "children", desc := "(LProcessMiner;I[J)I" } : Jvm.MethodName) : Cond) ∈ wG := wGm 548 (by decide +kernel) (by decide +kernel)
theorem q549 : (Jvm.Cond.codeWith ({ cls := "ProcessMinerLaw", name := "children", desc := "(LProcessMiner;I[J)I" } : Jvm.MethodName) method_15_code (4 : Nat) (Option.some Jvm.ClassFile.FieldType.int) [((0 : Nat), (9 : Nat), (12 : Nat), (15 : Nat)), ((0 : Nat), (9 : Nat), (15 : Nat), (13 : Nat))] : Cond) ∈ wG := wGm 549 (by decide +kernel) (by decide +kernel)
theorem q550 : (Jvm.Cond.methodLink "ProcessMinerLaw" (55 : Nat) ({ cls := "ProcessMiner", name := "children", desc := "(I)I" } : Jvm.MethodName) : Cond) ∈ wG := wGm 550 (by decide +kernel) (by decide +kernel)
theorem q551 : (Jvm.Cond.instanceMethod ({ cls := "ProcessMiner", name := "children", desc := "(I)I" } : Jvm.MethodName) : Cond) ∈ wG := wGm 551 (by decide +kernel) (by decide +kernel)
theorem q552 : (Jvm.Cond.selects "ProcessMiner" ({ cls := "ProcessMiner", name := "children", desc := "(I)I" } : Jvm.MethodName) ({ cls := "ProcessMiner", name := "children", desc := "(I)I" } : Jvm.MethodName) : Cond) ∈ wG := wGm 552 (by decide +kernel) (by decide +kernel)
theorem q553 : (Jvm.Cond.code ({ cls := "ProcessMiner", name := "children", desc := "(I)I" } : Jvm.MethodName) prog_1_method_19_code (2 : Nat) (Option.some Jvm.ClassFile.FieldType.int) : Cond) ∈ wG := wGm 553 (by decide +kernel) (by decide +kernel)
theorem q554 : (Jvm.Cond.methodLink "ProcessMinerLaw" (154 : Nat) ({ cls := "ProcessMinerLaw", name := "child", desc := "(LProcessMiner;II[J)I" } : Jvm.MethodName) : Cond) ∈ wG := wGm 554 (by decide +kernel) (by decide +kernel)
theorem q555 : (Jvm.Cond.static ({ cls := "ProcessMinerLaw", name := "child", desc := "(LProcessMiner;II[J)I" } : Jvm.MethodName) : Cond) ∈ wG := wGm 555 (by decide +kernel) (by decide +kernel)
theorem q556 : (Jvm.Cond.codeWith ({ cls := "ProcessMinerLaw", name := "child", desc := "(LProcessMiner;II[J)I" } : Jvm.MethodName) method_16_code (5 : Nat) (Option.some Jvm.ClassFile.FieldType.int) [((0 : Nat), (10 : Nat), (13 : Nat), (15 : Nat)), ((0 : Nat), (10 : Nat), (17 : Nat), (13 : Nat))] : Cond) ∈ wG := wGm 556 (by decide +kernel) (by decide +kernel)
theorem q557 : (Jvm.Cond.methodLink "ProcessMinerLaw" (58 : Nat) ({ cls := "ProcessMiner", name := "child", desc := "(II)I" } : Jvm.MethodName) : Cond) ∈ wG := wGm 557 (by decide +kernel) (by decide +kernel)
theorem q558 : (Jvm.Cond.instanceMethod ({ cls := "ProcessMiner", name := "child", desc := "(II)I" } : Jvm.MethodName) : Cond) ∈ wG := wGm 558 (by decide +kernel) (by decide +kernel)
theorem q559 : (Jvm.Cond.selects "ProcessMiner" ({ cls := "ProcessMiner", name := "child", desc := "(II)I" } : Jvm.MethodName) ({ cls := "ProcessMiner", name := "child", desc := "(II)I" } : Jvm.MethodName) : Cond) ∈ wG := wGm 559 (by decide +kernel) (by decide +kernel)
theorem q560 : (Jvm.Cond.code ({ cls := "ProcessMiner", name := "child", desc := "(II)I" } : Jvm.MethodName) prog_1_method_20_code (3 : Nat) (Option.some Jvm.ClassFile.FieldType.int) : Cond) ∈ wG := wGm 560 (by decide +kernel) (by decide +kernel)
theorem q562 : (Jvm.Cond.methodLink "ProcessMiner" (140 : Nat) ({ cls := "ProcessMiner$Tree", name := "childOf", desc := "(II)I" } : Jvm.MethodName) : Cond) ∈ wG := wGm 562 (by decide +kernel) (by decide +kernel)
theorem q563 : (Jvm.Cond.instanceMethod ({ cls := "ProcessMiner$Tree", name := "childOf", desc := "(II)I" } : Jvm.MethodName) : Cond) ∈ wG := wGm 563 (by decide +kernel) (by decide +kernel)
theorem q564 : (Jvm.Cond.selects "ProcessMiner$Tree" ({ cls := "ProcessMiner$Tree", name := "childOf", desc := "(II)I" } : Jvm.MethodName) ({ cls := "ProcessMiner$Tree", name := "childOf", desc := "(II)I" } : Jvm.MethodName) : Cond) ∈ wG := wGm 564 (by decide +kernel) (by decide +kernel)
theorem q565 : (Jvm.Cond.code ({ cls := "ProcessMiner$Tree", name := "childOf", desc := "(II)I" } : Jvm.MethodName) prog_4_method_3_code (3 : Nat) (Option.some Jvm.ClassFile.FieldType.int) : Cond) ∈ wG := wGm 565 (by decide +kernel) (by decide +kernel)
theorem q566 : (Jvm.Cond.methodLink "ProcessMinerLaw" (157 : Nat) ({ cls := "ProcessMinerLaw", name := "shortest", desc := "(LProcessMiner;I[J)I" } : Jvm.MethodName) : Cond) ∈ wG := wGm 566 (by decide +kernel) (by decide +kernel)
theorem q567 : (Jvm.Cond.static ({ cls := "ProcessMinerLaw", name := "shortest", desc := "(LProcessMiner;I[J)I" } : Jvm.MethodName) : Cond) ∈ wG := wGm 567 (by decide +kernel) (by decide +kernel)
theorem q568 : (Jvm.Cond.codeWith ({ cls := "ProcessMinerLaw", name := "shortest", desc := "(LProcessMiner;I[J)I" } : Jvm.MethodName) method_17_code (4 : Nat) (Option.some Jvm.ClassFile.FieldType.int) [((0 : Nat), (9 : Nat), (12 : Nat), (15 : Nat)), ((0 : Nat), (9 : Nat), (15 : Nat), (13 : Nat))] : Cond) ∈ wG := wGm 568 (by decide +kernel) (by decide +kernel)
theorem q569 : (Jvm.Cond.methodLink "ProcessMinerLaw" (61 : Nat) ({ cls := "ProcessMiner", name := "shortest", desc := "(I)I" } : Jvm.MethodName) : Cond) ∈ wG := wGm 569 (by decide +kernel) (by decide +kernel)
theorem q570 : (Jvm.Cond.instanceMethod ({ cls := "ProcessMiner", name := "shortest", desc := "(I)I" } : Jvm.MethodName) : Cond) ∈ wG := wGm 570 (by decide +kernel) (by decide +kernel)
theorem q571 : (Jvm.Cond.selects "ProcessMiner" ({ cls := "ProcessMiner", name := "shortest", desc := "(I)I" } : Jvm.MethodName) ({ cls := "ProcessMiner", name := "shortest", desc := "(I)I" } : Jvm.MethodName) : Cond) ∈ wG := wGm 571 (by decide +kernel) (by decide +kernel)
theorem q572 : (Jvm.Cond.code ({ cls := "ProcessMiner", name := "shortest", desc := "(I)I" } : Jvm.MethodName) prog_1_method_21_code (2 : Nat) (Option.some Jvm.ClassFile.FieldType.int) : Cond) ∈ wG := wGm 572 (by decide +kernel) (by decide +kernel)
theorem q573 : (Jvm.Cond.methodLink "ProcessMiner" (144 : Nat) ({ cls := "ProcessMiner$Tree", name := "leastLabels", desc := "(I)I" } : Jvm.MethodName) : Cond) ∈ wG := wGm 573 (by decide +kernel) (by decide +kernel)
theorem q574 : (Jvm.Cond.instanceMethod ({ cls := "ProcessMiner$Tree", name := "leastLabels", desc := "(I)I" } : Jvm.MethodName) : Cond) ∈ wG := wGm 574 (by decide +kernel) (by decide +kernel)
theorem q575 : (Jvm.Cond.selects "ProcessMiner$Tree" ({ cls := "ProcessMiner$Tree", name := "leastLabels", desc := "(I)I" } : Jvm.MethodName) ({ cls := "ProcessMiner$Tree", name := "leastLabels", desc := "(I)I" } : Jvm.MethodName) : Cond) ∈ wG := wGm 575 (by decide +kernel) (by decide +kernel)
theorem q576 : (Jvm.Cond.code ({ cls := "ProcessMiner$Tree", name := "leastLabels", desc := "(I)I" } : Jvm.MethodName) prog_4_method_4_code (3 : Nat) (Option.some Jvm.ClassFile.FieldType.int) : Cond) ∈ wG := wGm 576 (by decide +kernel) (by decide +kernel)
theorem q577 : (Jvm.Cond.methodLink "ProcessMiner$Tree" (34 : Nat) ({ cls := "ProcessMiner$Tree", name := "leastByChildren", desc := "(I)I" } : Jvm.MethodName) : Cond) ∈ wG := wGm 577 (by decide +kernel) (by decide +kernel)
theorem q579 : (Jvm.Cond.instanceMethod ({ cls := "ProcessMiner$Tree", name := "leastByChildren", desc := "(I)I" } : Jvm.MethodName) : Cond) ∈ wG := wGm 579 (by decide +kernel) (by decide +kernel)
theorem q580 : (Jvm.Cond.code ({ cls := "ProcessMiner$Tree", name := "leastByChildren", desc := "(I)I" } : Jvm.MethodName) prog_4_method_5_code (2 : Nat) (Option.some Jvm.ClassFile.FieldType.int) : Cond) ∈ wG := wGm 580 (by decide +kernel) (by decide +kernel)
theorem q581 : (Jvm.Cond.methodLink "ProcessMiner$Tree" (38 : Nat) ({ cls := "ProcessMiner$Tree", name := "leastOfChildren", desc := "(I)I" } : Jvm.MethodName) : Cond) ∈ wG := wGm 581 (by decide +kernel) (by decide +kernel)
theorem q583 : (Jvm.Cond.instanceMethod ({ cls := "ProcessMiner$Tree", name := "leastOfChildren", desc := "(I)I" } : Jvm.MethodName) : Cond) ∈ wG := wGm 583 (by decide +kernel) (by decide +kernel)
theorem q584 : (Jvm.Cond.code ({ cls := "ProcessMiner$Tree", name := "leastOfChildren", desc := "(I)I" } : Jvm.MethodName) prog_4_method_6_code (4 : Nat) (Option.some Jvm.ClassFile.FieldType.int) : Cond) ∈ wG := wGm 584 (by decide +kernel) (by decide +kernel)
theorem q585 : (Jvm.Cond.methodLink "ProcessMiner$Tree" (44 : Nat) ({ cls := "ProcessMiner$Tree", name := "childOf", desc := "(II)I" } : Jvm.MethodName) : Cond) ∈ wG := wGm 585 (by decide +kernel) (by decide +kernel)
theorem q586 : (Jvm.Cond.methodLink "ProcessMiner$Tree" (48 : Nat) ({ cls := "java/lang/Math", name := "min", desc := "(II)I" } : Jvm.MethodName) : Cond) ∈ wG := wGm 586 (by decide +kernel) (by decide +kernel)
theorem q587 : (Jvm.Cond.static ({ cls := "java/lang/Math", name := "min", desc := "(II)I" } : Jvm.MethodName) : Cond) ∈ wG := wGm 587 (by decide +kernel) (by decide +kernel)
theorem q588 : (Jvm.Cond.code ({ cls := "java/lang/Math", name := "min", desc := "(II)I" } : Jvm.MethodName) prog_13_method_69_code (2 : Nat) (Option.some Jvm.ClassFile.FieldType.int) : Cond) ∈ wG := wGm 588 (by decide +kernel) (by decide +kernel)
theorem q589 : (Jvm.Cond.methodLink "ProcessMiner$Tree" (41 : Nat) ({ cls := "ProcessMiner$Tree", name := "sumOfChildren", desc := "(I)I" } : Jvm.MethodName) : Cond) ∈ wG := wGm 589 (by decide +kernel) (by decide +kernel)
theorem q591 : (Jvm.Cond.instanceMethod ({ cls := "ProcessMiner$Tree", name := "sumOfChildren", desc := "(I)I" } : Jvm.MethodName) : Cond) ∈ wG := wGm 591 (by decide +kernel) (by decide +kernel)
theorem q592 : (Jvm.Cond.code ({ cls := "ProcessMiner$Tree", name := "sumOfChildren", desc := "(I)I" } : Jvm.MethodName) prog_4_method_7_code (4 : Nat) (Option.some Jvm.ClassFile.FieldType.int) : Cond) ∈ wG := wGm 592 (by decide +kernel) (by decide +kernel)
theorem q593 : (Jvm.Cond.methodLink "ProcessMinerLaw" (160 : Nat) ({ cls := "ProcessMinerLaw", name := "height", desc := "(LProcessMiner;[J)I" } : Jvm.MethodName) : Cond) ∈ wG := wGm 593 (by decide +kernel) (by decide +kernel)
theorem q594 : (Jvm.Cond.static ({ cls := "ProcessMinerLaw", name := "height", desc := "(LProcessMiner;[J)I" } : Jvm.MethodName) : Cond) ∈ wG := wGm 594 (by decide +kernel) (by decide +kernel)
theorem q595 : (Jvm.Cond.codeWith ({ cls := "ProcessMinerLaw", name := "height", desc := "(LProcessMiner;[J)I" } : Jvm.MethodName) method_18_code (3 : Nat) (Option.some Jvm.ClassFile.FieldType.int) [((0 : Nat), (8 : Nat), (11 : Nat), (15 : Nat))] : Cond) ∈ wG := wGm 595 (by decide +kernel) (by decide +kernel)
theorem q596 : (Jvm.Cond.methodLink "ProcessMinerLaw" (64 : Nat) ({ cls := "ProcessMiner", name := "height", desc := "()I" } : Jvm.MethodName) : Cond) ∈ wG := wGm 596 (by decide +kernel) (by decide +kernel)
theorem q597 : (Jvm.Cond.instanceMethod ({ cls := "ProcessMiner", name := "height", desc := "()I" } : Jvm.MethodName) : Cond) ∈ wG := wGm 597 (by decide +kernel) (by decide +kernel)
theorem q598 : (Jvm.Cond.selects "ProcessMiner" ({ cls := "ProcessMiner", name := "height", desc := "()I" } : Jvm.MethodName) ({ cls := "ProcessMiner", name := "height", desc := "()I" } : Jvm.MethodName) : Cond) ∈ wG := wGm 598 (by decide +kernel) (by decide +kernel)
theorem q599 : (Jvm.Cond.code ({ cls := "ProcessMiner", name := "height", desc := "()I" } : Jvm.MethodName) prog_1_method_22_code (1 : Nat) (Option.some Jvm.ClassFile.FieldType.int) : Cond) ∈ wG := wGm 599 (by decide +kernel) (by decide +kernel)
theorem q600 : (Jvm.Cond.methodLink "ProcessMiner" (151 : Nat) ({ cls := "ProcessMiner$Tree", name := "countLevels", desc := "()I" } : Jvm.MethodName) : Cond) ∈ wG := wGm 600 (by decide +kernel) (by decide +kernel)
theorem q601 : (Jvm.Cond.instanceMethod ({ cls := "ProcessMiner$Tree", name := "countLevels", desc := "()I" } : Jvm.MethodName) : Cond) ∈ wG := wGm 601 (by decide +kernel) (by decide +kernel)
theorem q602 : (Jvm.Cond.selects "ProcessMiner$Tree" ({ cls := "ProcessMiner$Tree", name := "countLevels", desc := "()I" } : Jvm.MethodName) ({ cls := "ProcessMiner$Tree", name := "countLevels", desc := "()I" } : Jvm.MethodName) : Cond) ∈ wG := wGm 602 (by decide +kernel) (by decide +kernel)
theorem q603 : (Jvm.Cond.code ({ cls := "ProcessMiner$Tree", name := "countLevels", desc := "()I" } : Jvm.MethodName) prog_4_method_8_code (3 : Nat) (Option.some Jvm.ClassFile.FieldType.int) : Cond) ∈ wG := wGm 603 (by decide +kernel) (by decide +kernel)
theorem q604 : (Jvm.Cond.methodLink "ProcessMiner$Tree" (53 : Nat) ({ cls := "java/lang/Math", name := "max", desc := "(II)I" } : Jvm.MethodName) : Cond) ∈ wG := wGm 604 (by decide +kernel) (by decide +kernel)
theorem q605 : (Jvm.Cond.static ({ cls := "java/lang/Math", name := "max", desc := "(II)I" } : Jvm.MethodName) : Cond) ∈ wG := wGm 605 (by decide +kernel) (by decide +kernel)
theorem q606 : (Jvm.Cond.code ({ cls := "java/lang/Math", name := "max", desc := "(II)I" } : Jvm.MethodName) prog_13_method_65_code (2 : Nat) (Option.some Jvm.ClassFile.FieldType.int) : Cond) ∈ wG := wGm 606 (by decide +kernel) (by decide +kernel)
theorem q607 : (Jvm.Cond.methodLink "ProcessMinerLaw" (163 : Nat) ({ cls := "ProcessMinerLaw", name := "accepts", desc := "(LProcessMiner;I[J)I" } : Jvm.MethodName) : Cond) ∈ wG := wGm 607 (by decide +kernel) (by decide +kernel)
theorem q608 : (Jvm.Cond.static ({ cls := "ProcessMinerLaw", name := "accepts", desc := "(LProcessMiner;I[J)I" } : Jvm.MethodName) : Cond) ∈ wG := wGm 608 (by decide +kernel) (by decide +kernel)
theorem q609 : (Jvm.Cond.codeWith ({ cls := "ProcessMinerLaw", name := "accepts", desc := "(LProcessMiner;I[J)I" } : Jvm.MethodName) method_19_code (4 : Nat) (Option.some Jvm.ClassFile.FieldType.int) [((0 : Nat), (16 : Nat), (19 : Nat), (15 : Nat)), ((0 : Nat), (16 : Nat), (22 : Nat), (13 : Nat))] : Cond) ∈ wG := wGm 609 (by decide +kernel) (by decide +kernel)
theorem q610 : (Jvm.Cond.methodLink "ProcessMinerLaw" (67 : Nat) ({ cls := "ProcessMiner", name := "accepts", desc := "(I)Z" } : Jvm.MethodName) : Cond) ∈ wG := wGm 610 (by decide +kernel) (by decide +kernel)
theorem q611 : (Jvm.Cond.instanceMethod ({ cls := "ProcessMiner", name := "accepts", desc := "(I)Z" } : Jvm.MethodName) : Cond) ∈ wG := wGm 611 (by decide +kernel) (by decide +kernel)
theorem q612 : (Jvm.Cond.selects "ProcessMiner" ({ cls := "ProcessMiner", name := "accepts", desc := "(I)Z" } : Jvm.MethodName) ({ cls := "ProcessMiner", name := "accepts", desc := "(I)Z" } : Jvm.MethodName) : Cond) ∈ wG := wGm 612 (by decide +kernel) (by decide +kernel)
theorem q613 : (Jvm.Cond.code ({ cls := "ProcessMiner", name := "accepts", desc := "(I)Z" } : Jvm.MethodName) prog_1_method_23_code (2 : Nat) (Option.some Jvm.ClassFile.FieldType.boolean) : Cond) ∈ wG := wGm 613 (by decide +kernel) (by decide +kernel)
theorem q614 : (Jvm.Cond.methodLink "ProcessMiner" (155 : Nat) ({ cls := "ProcessMiner$Matcher", name := "matches", desc := "([III)Z" } : Jvm.MethodName) : Cond) ∈ wG := wGm 614 (by decide +kernel) (by decide +kernel)
theorem q615 : (Jvm.Cond.instanceMethod ({ cls := "ProcessMiner$Matcher", name := "matches", desc := "([III)Z" } : Jvm.MethodName) : Cond) ∈ wG := wGm 615 (by decide +kernel) (by decide +kernel)
theorem q616 : (Jvm.Cond.selects "ProcessMiner$Matcher" ({ cls := "ProcessMiner$Matcher", name := "matches", desc := "([III)Z" } : Jvm.MethodName) ({ cls := "ProcessMiner$Matcher", name := "matches", desc := "([III)Z" } : Jvm.MethodName) : Cond) ∈ wG := wGm 616 (by decide +kernel) (by decide +kernel)
theorem q617 : (Jvm.Cond.code ({ cls := "ProcessMiner$Matcher", name := "matches", desc := "([III)Z" } : Jvm.MethodName) prog_3_method_2_code (6 : Nat) (Option.some Jvm.ClassFile.FieldType.boolean) : Cond) ∈ wG := wGm 617 (by decide +kernel) (by decide +kernel)
theorem q618 : (Jvm.Cond.methodLink "ProcessMiner$Matcher" (31 : Nat) ({ cls := "ProcessMiner$Matcher", name := "readFrom", desc := "(I)V" } : Jvm.MethodName) : Cond) ∈ wG := wGm 618 (by decide +kernel) (by decide +kernel)
theorem q620 : (Jvm.Cond.instanceMethod ({ cls := "ProcessMiner$Matcher", name := "readFrom", desc := "(I)V" } : Jvm.MethodName) : Cond) ∈ wG := wGm 620 (by decide +kernel) (by decide +kernel)
theorem q621 : (Jvm.Cond.code ({ cls := "ProcessMiner$Matcher", name := "readFrom", desc := "(I)V" } : Jvm.MethodName) prog_3_method_6_code (3 : Nat) (Option.none : Option Jvm.ClassFile.FieldType) : Cond) ∈ wG := wGm 621 (by decide +kernel) (by decide +kernel)
theorem q622 : (Jvm.Cond.methodLink "ProcessMiner$Matcher" (50 : Nat) ({ cls := "ProcessMiner$Matcher", name := "endsOf", desc := "(II)I" } : Jvm.MethodName) : Cond) ∈ wG := wGm 622 (by decide +kernel) (by decide +kernel)
theorem q624 : (Jvm.Cond.instanceMethod ({ cls := "ProcessMiner$Matcher", name := "endsOf", desc := "(II)I" } : Jvm.MethodName) : Cond) ∈ wG := wGm 624 (by decide +kernel) (by decide +kernel)
theorem q625 : (Jvm.Cond.code ({ cls := "ProcessMiner$Matcher", name := "endsOf", desc := "(II)I" } : Jvm.MethodName) prog_3_method_7_code (3 : Nat) (Option.some Jvm.ClassFile.FieldType.int) : Cond) ∈ wG := wGm 625 (by decide +kernel) (by decide +kernel)
theorem q626 : (Jvm.Cond.methodLink "ProcessMiner$Matcher" (57 : Nat) ({ cls := "ProcessMiner$Matcher", name := "endsOfLabel", desc := "(II)I" } : Jvm.MethodName) : Cond) ∈ wG := wGm 626 (by decide +kernel) (by decide +kernel)
theorem q628 : (Jvm.Cond.instanceMethod ({ cls := "ProcessMiner$Matcher", name := "endsOfLabel", desc := "(II)I" } : Jvm.MethodName) : Cond) ∈ wG := wGm 628 (by decide +kernel) (by decide +kernel)
theorem q629 : (Jvm.Cond.code ({ cls := "ProcessMiner$Matcher", name := "endsOfLabel", desc := "(II)I" } : Jvm.MethodName) prog_3_method_9_code (6 : Nat) (Option.some Jvm.ClassFile.FieldType.int) : Cond) ∈ wG := wGm 629 (by decide +kernel) (by decide +kernel)
theorem q630 : (Jvm.Cond.methodLink "ProcessMiner$Matcher" (60 : Nat) ({ cls := "ProcessMiner$Matcher", name := "endsOfAlternatives", desc := "(III)I" } : Jvm.MethodName) : Cond) ∈ wG := wGm 630 (by decide +kernel) (by decide +kernel)
theorem q632 : (Jvm.Cond.instanceMethod ({ cls := "ProcessMiner$Matcher", name := "endsOfAlternatives", desc := "(III)I" } : Jvm.MethodName) : Cond) ∈ wG := wGm 632 (by decide +kernel) (by decide +kernel)
theorem q633 : (Jvm.Cond.code ({ cls := "ProcessMiner$Matcher", name := "endsOfAlternatives", desc := "(III)I" } : Jvm.MethodName) prog_3_method_10_code (6 : Nat) (Option.some Jvm.ClassFile.FieldType.int) : Cond) ∈ wG := wGm 633 (by decide +kernel) (by decide +kernel)
theorem q634 : (Jvm.Cond.methodLink "ProcessMiner$Matcher" (80 : Nat) ({ cls := "ProcessMiner$Tree", name := "childOf", desc := "(II)I" } : Jvm.MethodName) : Cond) ∈ wG := wGm 634 (by decide +kernel) (by decide +kernel)
theorem q635 : (Jvm.Cond.methodLink "ProcessMiner$Matcher" (83 : Nat) ({ cls := "ProcessMiner$Matcher", name := "endsOfChild", desc := "(III)I" } : Jvm.MethodName) : Cond) ∈ wG := wGm 635 (by decide +kernel) (by decide +kernel)
theorem q637 : (Jvm.Cond.instanceMethod ({ cls := "ProcessMiner$Matcher", name := "endsOfChild", desc := "(III)I" } : Jvm.MethodName) : Cond) ∈ wG := wGm 637 (by decide +kernel) (by decide +kernel)
theorem q638 : (Jvm.Cond.code ({ cls := "ProcessMiner$Matcher", name := "endsOfChild", desc := "(III)I" } : Jvm.MethodName) prog_3_method_14_code (6 : Nat) (Option.some Jvm.ClassFile.FieldType.int) : Cond) ∈ wG := wGm 638 (by decide +kernel) (by decide +kernel)
theorem q639 : (Jvm.Cond.methodLink "ProcessMiner$Matcher" (64 : Nat) ({ cls := "ProcessMiner$Matcher", name := "endsOfOrder", desc := "(II)I" } : Jvm.MethodName) : Cond) ∈ wG := wGm 639 (by decide +kernel) (by decide +kernel)
theorem q641 : (Jvm.Cond.instanceMethod ({ cls := "ProcessMiner$Matcher", name := "endsOfOrder", desc := "(II)I" } : Jvm.MethodName) : Cond) ∈ wG := wGm 641 (by decide +kernel) (by decide +kernel)
theorem q642 : (Jvm.Cond.code ({ cls := "ProcessMiner$Matcher", name := "endsOfOrder", desc := "(II)I" } : Jvm.MethodName) prog_3_method_11_code (7 : Nat) (Option.some Jvm.ClassFile.FieldType.int) : Cond) ∈ wG := wGm 642 (by decide +kernel) (by decide +kernel)
theorem q644 : (Jvm.Cond.methodLink "ProcessMiner$Matcher" (67 : Nat) ({ cls := "ProcessMiner$Matcher", name := "endsOfBoth", desc := "(II)I" } : Jvm.MethodName) : Cond) ∈ wG := wGm 644 (by decide +kernel) (by decide +kernel)
theorem q646 : (Jvm.Cond.instanceMethod ({ cls := "ProcessMiner$Matcher", name := "endsOfBoth", desc := "(II)I" } : Jvm.MethodName) : Cond) ∈ wG := wGm 646 (by decide +kernel) (by decide +kernel)
theorem q647 : (Jvm.Cond.code ({ cls := "ProcessMiner$Matcher", name := "endsOfBoth", desc := "(II)I" } : Jvm.MethodName) prog_3_method_12_code (5 : Nat) (Option.some Jvm.ClassFile.FieldType.int) : Cond) ∈ wG := wGm 647 (by decide +kernel) (by decide +kernel)
theorem q648 : (Jvm.Cond.methodLink "ProcessMiner$Matcher" (73 : Nat) ({ cls := "ProcessMiner$Matcher", name := "allEnds", desc := "(I)I" } : Jvm.MethodName) : Cond) ∈ wG := wGm 648 (by decide +kernel) (by decide +kernel)
theorem q650 : (Jvm.Cond.instanceMethod ({ cls := "ProcessMiner$Matcher", name := "allEnds", desc := "(I)I" } : Jvm.MethodName) : Cond) ∈ wG := wGm 650 (by decide +kernel) (by decide +kernel)
theorem q651 : (Jvm.Cond.code ({ cls := "ProcessMiner$Matcher", name := "allEnds", desc := "(I)I" } : Jvm.MethodName) prog_3_method_8_code (4 : Nat) (Option.some Jvm.ClassFile.FieldType.int) : Cond) ∈ wG := wGm 651 (by decide +kernel) (by decide +kernel)
theorem q652 : (Jvm.Cond.methodLink "ProcessMiner$Matcher" (70 : Nat) ({ cls := "ProcessMiner$Matcher", name := "endsOfAgain", desc := "(II)I" } : Jvm.MethodName) : Cond) ∈ wG := wGm 652 (by decide +kernel) (by decide +kernel)
theorem q654 : (Jvm.Cond.instanceMethod ({ cls := "ProcessMiner$Matcher", name := "endsOfAgain", desc := "(II)I" } : Jvm.MethodName) : Cond) ∈ wG := wGm 654 (by decide +kernel) (by decide +kernel)
theorem q655 : (Jvm.Cond.code ({ cls := "ProcessMiner$Matcher", name := "endsOfAgain", desc := "(II)I" } : Jvm.MethodName) prog_3_method_13_code (7 : Nat) (Option.some Jvm.ClassFile.FieldType.int) : Cond) ∈ wG := wGm 655 (by decide +kernel) (by decide +kernel)
theorem q656 : (Jvm.Cond.methodLink "ProcessMiner$Matcher" (35 : Nat) ({ cls := "ProcessMiner$Matcher", name := "isWhole", desc := "()Z" } : Jvm.MethodName) : Cond) ∈ wG := wGm 656 (by decide +kernel) (by decide +kernel)
theorem q658 : (Jvm.Cond.instanceMethod ({ cls := "ProcessMiner$Matcher", name := "isWhole", desc := "()Z" } : Jvm.MethodName) : Cond) ∈ wG := wGm 658 (by decide +kernel) (by decide +kernel)
theorem q659 : (Jvm.Cond.code ({ cls := "ProcessMiner$Matcher", name := "isWhole", desc := "()Z" } : Jvm.MethodName) prog_3_method_5_code (1 : Nat) (Option.some Jvm.ClassFile.FieldType.boolean) : Cond) ∈ wG := wGm 659 (by decide +kernel) (by decide +kernel)
theorem q660 : (Jvm.Cond.methodLink "ProcessMinerLaw" (166 : Nat) ({ cls := "ProcessMinerLaw", name := "acceptsBuffer", desc := "(LProcessMiner;[J)I" } : Jvm.MethodName) : Cond) ∈ wG := wGm 660 (by decide +kernel) (by decide +kernel)
theorem q661 : (Jvm.Cond.static ({ cls := "ProcessMinerLaw", name := "acceptsBuffer", desc := "(LProcessMiner;[J)I" } : Jvm.MethodName) : Cond) ∈ wG := wGm 661 (by decide +kernel) (by decide +kernel)
theorem q662 : (Jvm.Cond.codeWith ({ cls := "ProcessMinerLaw", name := "acceptsBuffer", desc := "(LProcessMiner;[J)I" } : Jvm.MethodName) method_20_code (3 : Nat) (Option.some Jvm.ClassFile.FieldType.int) [((0 : Nat), (15 : Nat), (18 : Nat), (15 : Nat))] : Cond) ∈ wG := wGm 662 (by decide +kernel) (by decide +kernel)
theorem q663 : (Jvm.Cond.methodLink "ProcessMinerLaw" (71 : Nat) ({ cls := "ProcessMiner", name := "acceptsBuffer", desc := "()Z" } : Jvm.MethodName) : Cond) ∈ wG := wGm 663 (by decide +kernel) (by decide +kernel)
theorem q664 : (Jvm.Cond.instanceMethod ({ cls := "ProcessMiner", name := "acceptsBuffer", desc := "()Z" } : Jvm.MethodName) : Cond) ∈ wG := wGm 664 (by decide +kernel) (by decide +kernel)
theorem q665 : (Jvm.Cond.selects "ProcessMiner" ({ cls := "ProcessMiner", name := "acceptsBuffer", desc := "()Z" } : Jvm.MethodName) ({ cls := "ProcessMiner", name := "acceptsBuffer", desc := "()Z" } : Jvm.MethodName) : Cond) ∈ wG := wGm 665 (by decide +kernel) (by decide +kernel)
theorem q666 : (Jvm.Cond.code ({ cls := "ProcessMiner", name := "acceptsBuffer", desc := "()Z" } : Jvm.MethodName) prog_1_method_24_code (1 : Nat) (Option.some Jvm.ClassFile.FieldType.boolean) : Cond) ∈ wG := wGm 666 (by decide +kernel) (by decide +kernel)
theorem q667 : (Jvm.Cond.methodLink "ProcessMinerLaw" (169 : Nat) ({ cls := "ProcessMinerLaw", name := "fitness", desc := "(LProcessMiner;[D)I" } : Jvm.MethodName) : Cond) ∈ wG := wGm 667 (by decide +kernel) (by decide +kernel)
theorem q668 : (Jvm.Cond.static ({ cls := "ProcessMinerLaw", name := "fitness", desc := "(LProcessMiner;[D)I" } : Jvm.MethodName) : Cond) ∈ wG := wGm 668 (by decide +kernel) (by decide +kernel)
theorem q669 : (Jvm.Cond.codeWith ({ cls := "ProcessMinerLaw", name := "fitness", desc := "(LProcessMiner;[D)I" } : Jvm.MethodName) method_21_code (3 : Nat) (Option.some Jvm.ClassFile.FieldType.int) [((0 : Nat), (7 : Nat), (10 : Nat), (15 : Nat))] : Cond) ∈ wG := wGm 669 (by decide +kernel) (by decide +kernel)
theorem q670 : (Jvm.Cond.methodLink "ProcessMinerLaw" (75 : Nat) ({ cls := "ProcessMiner", name := "fitness", desc := "()D" } : Jvm.MethodName) : Cond) ∈ wG := wGm 670 (by decide +kernel) (by decide +kernel)
theorem q671 : (Jvm.Cond.instanceMethod ({ cls := "ProcessMiner", name := "fitness", desc := "()D" } : Jvm.MethodName) : Cond) ∈ wG := wGm 671 (by decide +kernel) (by decide +kernel)
theorem q672 : (Jvm.Cond.selects "ProcessMiner" ({ cls := "ProcessMiner", name := "fitness", desc := "()D" } : Jvm.MethodName) ({ cls := "ProcessMiner", name := "fitness", desc := "()D" } : Jvm.MethodName) : Cond) ∈ wG := wGm 672 (by decide +kernel) (by decide +kernel)
theorem q673 : (Jvm.Cond.code ({ cls := "ProcessMiner", name := "fitness", desc := "()D" } : Jvm.MethodName) prog_1_method_25_code (3 : Nat) (Option.some Jvm.ClassFile.FieldType.double) : Cond) ∈ wG := wGm 673 (by decide +kernel) (by decide +kernel)
theorem q674 : (Jvm.Cond.methodLink "ProcessMinerLaw" (173 : Nat) ({ cls := "ProcessMinerLaw", name := "words", desc := "(LProcessMiner;I[J)I" } : Jvm.MethodName) : Cond) ∈ wG := wGm 674 (by decide +kernel) (by decide +kernel)
theorem q675 : (Jvm.Cond.static ({ cls := "ProcessMinerLaw", name := "words", desc := "(LProcessMiner;I[J)I" } : Jvm.MethodName) : Cond) ∈ wG := wGm 675 (by decide +kernel) (by decide +kernel)
theorem q676 : (Jvm.Cond.codeWith ({ cls := "ProcessMinerLaw", name := "words", desc := "(LProcessMiner;I[J)I" } : Jvm.MethodName) method_22_code (4 : Nat) (Option.some Jvm.ClassFile.FieldType.int) [((0 : Nat), (9 : Nat), (12 : Nat), (15 : Nat)), ((0 : Nat), (9 : Nat), (15 : Nat), (20 : Nat))] : Cond) ∈ wG := wGm 676 (by decide +kernel) (by decide +kernel)
theorem q677 : (Jvm.Cond.methodLink "ProcessMinerLaw" (79 : Nat) ({ cls := "ProcessMiner", name := "words", desc := "(I)I" } : Jvm.MethodName) : Cond) ∈ wG := wGm 677 (by decide +kernel) (by decide +kernel)
theorem q678 : (Jvm.Cond.instanceMethod ({ cls := "ProcessMiner", name := "words", desc := "(I)I" } : Jvm.MethodName) : Cond) ∈ wG := wGm 678 (by decide +kernel) (by decide +kernel)
theorem q679 : (Jvm.Cond.selects "ProcessMiner" ({ cls := "ProcessMiner", name := "words", desc := "(I)I" } : Jvm.MethodName) ({ cls := "ProcessMiner", name := "words", desc := "(I)I" } : Jvm.MethodName) : Cond) ∈ wG := wGm 679 (by decide +kernel) (by decide +kernel)
theorem q680 : (Jvm.Cond.code ({ cls := "ProcessMiner", name := "words", desc := "(I)I" } : Jvm.MethodName) prog_1_method_26_code (2 : Nat) (Option.some Jvm.ClassFile.FieldType.int) : Cond) ∈ wG := wGm 680 (by decide +kernel) (by decide +kernel)
theorem q682 : (Jvm.Cond.methodLink "ProcessMiner" (164 : Nat) ({ cls := "ProcessMiner$Matcher", name := "countWords", desc := "(I)I" } : Jvm.MethodName) : Cond) ∈ wG := wGm 682 (by decide +kernel) (by decide +kernel)
theorem q683 : (Jvm.Cond.instanceMethod ({ cls := "ProcessMiner$Matcher", name := "countWords", desc := "(I)I" } : Jvm.MethodName) : Cond) ∈ wG := wGm 683 (by decide +kernel) (by decide +kernel)
theorem q684 : (Jvm.Cond.selects "ProcessMiner$Matcher" ({ cls := "ProcessMiner$Matcher", name := "countWords", desc := "(I)I" } : Jvm.MethodName) ({ cls := "ProcessMiner$Matcher", name := "countWords", desc := "(I)I" } : Jvm.MethodName) : Cond) ∈ wG := wGm 684 (by decide +kernel) (by decide +kernel)
theorem q685 : (Jvm.Cond.code ({ cls := "ProcessMiner$Matcher", name := "countWords", desc := "(I)I" } : Jvm.MethodName) prog_3_method_3_code (2 : Nat) (Option.some Jvm.ClassFile.FieldType.int) : Cond) ∈ wG := wGm 685 (by decide +kernel) (by decide +kernel)
theorem q686 : (Jvm.Cond.methodLink "ProcessMiner$Matcher" (39 : Nat) ({ cls := "ProcessMiner$Matcher", name := "countSpelt", desc := "(LProcessMiner$Matcher;I)I" } : Jvm.MethodName) : Cond) ∈ wG := wGm 686 (by decide +kernel) (by decide +kernel)
theorem q687 : (Jvm.Cond.static ({ cls := "ProcessMiner$Matcher", name := "countSpelt", desc := "(LProcessMiner$Matcher;I)I" } : Jvm.MethodName) : Cond) ∈ wG := wGm 687 (by decide +kernel) (by decide +kernel)
theorem q688 : (Jvm.Cond.code ({ cls := "ProcessMiner$Matcher", name := "countSpelt", desc := "(LProcessMiner$Matcher;I)I" } : Jvm.MethodName) prog_3_method_4_code (4 : Nat) (Option.some Jvm.ClassFile.FieldType.int) : Cond) ∈ wG := wGm 688 (by decide +kernel) (by decide +kernel)
theorem q689 : (Jvm.Cond.classLink "ProcessMinerLaw" (83 : Nat) "ProcessMinerModel" : Cond) ∈ wG := wGm 689 (by decide +kernel) (by decide +kernel)
theorem q690 : (Jvm.Cond.instantiable "ProcessMinerModel" (13 : Nat) : Cond) ∈ wG := wGm 690 (by decide +kernel) (by decide +kernel)
theorem q691 : (Jvm.Cond.methodLink "ProcessMinerLaw" (85 : Nat) ({ cls := "ProcessMinerModel", name := "<init>", desc := "()V" } : Jvm.MethodName) : Cond) ∈ wG := wGm 691 (by decide +kernel) (by decide +kernel)
theorem q692 : (Jvm.Cond.instanceMethod ({ cls := "ProcessMinerModel", name := "<init>", desc := "()V" } : Jvm.MethodName) : Cond) ∈ wG := wGm 692 (by decide +kernel) (by decide +kernel)
theorem q693 : (Jvm.Cond.code ({ cls := "ProcessMinerModel", name := "<init>", desc := "()V" } : Jvm.MethodName) prog_6_method_1_code (1 : Nat) (Option.none : Option Jvm.ClassFile.FieldType) : Cond) ∈ wG := wGm 693 (by decide +kernel) (by decide +kernel)
theorem q694 : (Jvm.Cond.methodLink "ProcessMinerModel" (1 : Nat) ({ cls := "java/lang/Object", name := "<init>", desc := "()V" } : Jvm.MethodName) : Cond) ∈ wG := wGm 694 (by decide +kernel) (by decide +kernel)
theorem q695 : (Jvm.Cond.fieldLink "ProcessMinerModel" (34 : Nat) "ProcessMinerModel" "thrown" "I" : Cond) ∈ wG := wGm 695 (by decide +kernel) (by decide +kernel)
theorem q696 : (Jvm.Cond.fieldLink "ProcessMinerModel" (49 : Nat) "ProcessMinerModel" "buffered" "I" : Cond) ∈ wG := wGm 696 (by decide +kernel) (by decide +kernel)
theorem q697 : (Jvm.Cond.fieldLink "ProcessMinerModel" (9 : Nat) "ProcessMinerModel" "buffer" "[I" : Cond) ∈ wG := wGm 697 (by decide +kernel) (by decide +kernel)
theorem q698 : (Jvm.Cond.fieldLink "ProcessMinerModel" (38 : Nat) "ProcessMinerModel" "traces" "I" : Cond) ∈ wG := wGm 698 (by decide +kernel) (by decide +kernel)
theorem q699 : (Jvm.Cond.fieldLink "ProcessMinerModel" (13 : Nat) "ProcessMinerModel" "times" "[I" : Cond) ∈ wG := wGm 699 (by decide +kernel) (by decide +kernel)
theorem q700 : (Jvm.Cond.fieldLink "ProcessMinerModel" (16 : Nat) "ProcessMinerModel" "lengths" "[I" : Cond) ∈ wG := wGm 700 (by decide +kernel) (by decide +kernel)
theorem q701 : (Jvm.Cond.fieldLink "ProcessMinerModel" (19 : Nat) "ProcessMinerModel" "text" "[I" : Cond) ∈ wG := wGm 701 (by decide +kernel) (by decide +kernel)
theorem q702 : (Jvm.Cond.fieldLink "ProcessMinerModel" (55 : Nat) "ProcessMinerModel" "isMined" "Z" : Cond) ∈ wG := wGm 702 (by decide +kernel) (by decide +kernel)
theorem q703 : (Jvm.Cond.fieldLink "ProcessMinerModel" (94 : Nat) "ProcessMinerModel" "nodes" "I" : Cond) ∈ wG := wGm 703 (by decide +kernel) (by decide +kernel)
theorem q704 : (Jvm.Cond.fieldLink "ProcessMinerModel" (22 : Nat) "ProcessMinerModel" "kinds" "[I" : Cond) ∈ wG := wGm 704 (by decide +kernel) (by decide +kernel)
theorem q705 : (Jvm.Cond.fieldLink "ProcessMinerModel" (25 : Nat) "ProcessMinerModel" "parents" "[I" : Cond) ∈ wG := wGm 705 (by decide +kernel) (by decide +kernel)
theorem q706 : (Jvm.Cond.fieldLink "ProcessMinerModel" (28 : Nat) "ProcessMinerModel" "sets" "[I" : Cond) ∈ wG := wGm 706 (by decide +kernel) (by decide +kernel)
theorem q707 : (Jvm.Cond.fieldLink "ProcessMinerModel" (31 : Nat) "ProcessMinerModel" "word" "[I" : Cond) ∈ wG := wGm 707 (by decide +kernel) (by decide +kernel)
theorem q708 : (Jvm.Cond.lays "ProcessMinerModel" "ProcessMinerModel" "thrown" "I" : Cond) ∈ wG := wGm 708 (by decide +kernel) (by decide +kernel)
theorem q709 : (Jvm.Cond.soleField "ProcessMinerModel" "thrown" : Cond) ∈ wG := wGm 709 (by decide +kernel) (by decide +kernel)
theorem q710 : (Jvm.Cond.lays "ProcessMinerModel" "ProcessMinerModel" "buffered" "I" : Cond) ∈ wG := wGm 710 (by decide +kernel) (by decide +kernel)
theorem q711 : (Jvm.Cond.soleField "ProcessMinerModel" "buffered" : Cond) ∈ wG := wGm 711 (by decide +kernel) (by decide +kernel)
theorem q712 : (Jvm.Cond.laysFinal "ProcessMinerModel" "ProcessMinerModel" "buffer" "[I" : Cond) ∈ wG := wGm 712 (by decide +kernel) (by decide +kernel)
theorem q713 : (Jvm.Cond.soleField "ProcessMinerModel" "buffer" : Cond) ∈ wG := wGm 713 (by decide +kernel) (by decide +kernel)
theorem q714 : (Jvm.Cond.lays "ProcessMinerModel" "ProcessMinerModel" "traces" "I" : Cond) ∈ wG := wGm 714 (by decide +kernel) (by decide +kernel)
theorem q715 : (Jvm.Cond.soleField "ProcessMinerModel" "traces" : Cond) ∈ wG := wGm 715 (by decide +kernel) (by decide +kernel)
theorem q716 : (Jvm.Cond.laysFinal "ProcessMinerModel" "ProcessMinerModel" "times" "[I" : Cond) ∈ wG := wGm 716 (by decide +kernel) (by decide +kernel)
theorem q717 : (Jvm.Cond.soleField "ProcessMinerModel" "times" : Cond) ∈ wG := wGm 717 (by decide +kernel) (by decide +kernel)
theorem q718 : (Jvm.Cond.laysFinal "ProcessMinerModel" "ProcessMinerModel" "lengths" "[I" : Cond) ∈ wG := wGm 718 (by decide +kernel) (by decide +kernel)
theorem q719 : (Jvm.Cond.soleField "ProcessMinerModel" "lengths" : Cond) ∈ wG := wGm 719 (by decide +kernel) (by decide +kernel)
theorem q720 : (Jvm.Cond.laysFinal "ProcessMinerModel" "ProcessMinerModel" "text" "[I" : Cond) ∈ wG := wGm 720 (by decide +kernel) (by decide +kernel)
theorem q721 : (Jvm.Cond.soleField "ProcessMinerModel" "text" : Cond) ∈ wG := wGm 721 (by decide +kernel) (by decide +kernel)
theorem q722 : (Jvm.Cond.lays "ProcessMinerModel" "ProcessMinerModel" "isMined" "Z" : Cond) ∈ wG := wGm 722 (by decide +kernel) (by decide +kernel)
theorem q723 : (Jvm.Cond.soleField "ProcessMinerModel" "isMined" : Cond) ∈ wG := wGm 723 (by decide +kernel) (by decide +kernel)
theorem q724 : (Jvm.Cond.lays "ProcessMinerModel" "ProcessMinerModel" "nodes" "I" : Cond) ∈ wG := wGm 724 (by decide +kernel) (by decide +kernel)
theorem q725 : (Jvm.Cond.soleField "ProcessMinerModel" "nodes" : Cond) ∈ wG := wGm 725 (by decide +kernel) (by decide +kernel)
theorem q726 : (Jvm.Cond.laysFinal "ProcessMinerModel" "ProcessMinerModel" "kinds" "[I" : Cond) ∈ wG := wGm 726 (by decide +kernel) (by decide +kernel)
theorem q727 : (Jvm.Cond.soleField "ProcessMinerModel" "kinds" : Cond) ∈ wG := wGm 727 (by decide +kernel) (by decide +kernel)
theorem q728 : (Jvm.Cond.laysFinal "ProcessMinerModel" "ProcessMinerModel" "parents" "[I" : Cond) ∈ wG := wGm 728 (by decide +kernel) (by decide +kernel)
theorem q729 : (Jvm.Cond.soleField "ProcessMinerModel" "parents" : Cond) ∈ wG := wGm 729 (by decide +kernel) (by decide +kernel)
theorem q730 : (Jvm.Cond.laysFinal "ProcessMinerModel" "ProcessMinerModel" "sets" "[I" : Cond) ∈ wG := wGm 730 (by decide +kernel) (by decide +kernel)
theorem q731 : (Jvm.Cond.soleField "ProcessMinerModel" "sets" : Cond) ∈ wG := wGm 731 (by decide +kernel) (by decide +kernel)
theorem q732 : (Jvm.Cond.laysFinal "ProcessMinerModel" "ProcessMinerModel" "word" "[I" : Cond) ∈ wG := wGm 732 (by decide +kernel) (by decide +kernel)
theorem q733 : (Jvm.Cond.soleField "ProcessMinerModel" "word" : Cond) ∈ wG := wGm 733 (by decide +kernel) (by decide +kernel)
theorem q734 : (Jvm.Cond.superclass "ProcessMinerModel" "java/lang/Object" : Cond) ∈ wG := wGm 734 (by decide +kernel) (by decide +kernel)
theorem q735 : (Jvm.Cond.methodLink "ProcessMinerLaw" (92 : Nat) ({ cls := "ProcessMinerModel", name := "thrown", desc := "()I" } : Jvm.MethodName) : Cond) ∈ wG := wGm 735 (by decide +kernel) (by decide +kernel)
theorem q736 : (Jvm.Cond.instanceMethod ({ cls := "ProcessMinerModel", name := "thrown", desc := "()I" } : Jvm.MethodName) : Cond) ∈ wG := wGm 736 (by decide +kernel) (by decide +kernel)
theorem q737 : (Jvm.Cond.selects "ProcessMinerModel" ({ cls := "ProcessMinerModel", name := "thrown", desc := "()I" } : Jvm.MethodName) ({ cls := "ProcessMinerModel", name := "thrown", desc := "()I" } : Jvm.MethodName) : Cond) ∈ wG := wGm 737 (by decide +kernel) (by decide +kernel)
theorem q738 : (Jvm.Cond.code ({ cls := "ProcessMinerModel", name := "thrown", desc := "()I" } : Jvm.MethodName) prog_6_method_2_code (1 : Nat) (Option.some Jvm.ClassFile.FieldType.int) : Cond) ∈ wG := wGm 738 (by decide +kernel) (by decide +kernel)
theorem q739 : (Jvm.Cond.methodLink "ProcessMinerLaw" (91 : Nat) ({ cls := "ProcessMinerModel", name := "event", desc := "(I)I" } : Jvm.MethodName) : Cond) ∈ wG := wGm 739 (by decide +kernel) (by decide +kernel)
theorem q740 : (Jvm.Cond.instanceMethod ({ cls := "ProcessMinerModel", name := "event", desc := "(I)I" } : Jvm.MethodName) : Cond) ∈ wG := wGm 740 (by decide +kernel) (by decide +kernel)
theorem q741 : (Jvm.Cond.selects "ProcessMinerModel" ({ cls := "ProcessMinerModel", name := "event", desc := "(I)I" } : Jvm.MethodName) ({ cls := "ProcessMinerModel", name := "event", desc := "(I)I" } : Jvm.MethodName) : Cond) ∈ wG := wGm 741 (by decide +kernel) (by decide +kernel)
theorem q742 : (Jvm.Cond.code ({ cls := "ProcessMinerModel", name := "event", desc := "(I)I" } : Jvm.MethodName) prog_6_method_8_code (2 : Nat) (Option.some Jvm.ClassFile.FieldType.int) : Cond) ∈ wG := wGm 742 (by decide +kernel) (by decide +kernel)
theorem q743 : (Jvm.Cond.methodLink "ProcessMinerModel" (41 : Nat) ({ cls := "ProcessMinerModel", name := "isLabel", desc := "(I)Z" } : Jvm.MethodName) : Cond) ∈ wG := wGm 743 (by decide +kernel) (by decide +kernel)
theorem q744 : (Jvm.Cond.static ({ cls := "ProcessMinerModel", name := "isLabel", desc := "(I)Z" } : Jvm.MethodName) : Cond) ∈ wG := wGm 744 (by decide +kernel) (by decide +kernel)
theorem q745 : (Jvm.Cond.code ({ cls := "ProcessMinerModel", name := "isLabel", desc := "(I)Z" } : Jvm.MethodName) prog_6_method_4_code (1 : Nat) (Option.some Jvm.ClassFile.FieldType.boolean) : Cond) ∈ wG := wGm 745 (by decide +kernel) (by decide +kernel)
theorem q746 : (Jvm.Cond.methodLink "ProcessMinerModel" (45 : Nat) ({ cls := "ProcessMinerModel", name := "fail", desc := "(I)I" } : Jvm.MethodName) : Cond) ∈ wG := wGm 746 (by decide +kernel) (by decide +kernel)
theorem q748 : (Jvm.Cond.instanceMethod ({ cls := "ProcessMinerModel", name := "fail", desc := "(I)I" } : Jvm.MethodName) : Cond) ∈ wG := wGm 748 (by decide +kernel) (by decide +kernel)
theorem q749 : (Jvm.Cond.code ({ cls := "ProcessMinerModel", name := "fail", desc := "(I)I" } : Jvm.MethodName) prog_6_method_3_code (2 : Nat) (Option.some Jvm.ClassFile.FieldType.int) : Cond) ∈ wG := wGm 749 (by decide +kernel) (by decide +kernel)
theorem q750 : (Jvm.Cond.methodLink "ProcessMinerLaw" (97 : Nat) ({ cls := "ProcessMinerModel", name := "endTrace", desc := "(I)I" } : Jvm.MethodName) : Cond) ∈ wG := wGm 750 (by decide +kernel) (by decide +kernel)
theorem q751 : (Jvm.Cond.instanceMethod ({ cls := "ProcessMinerModel", name := "endTrace", desc := "(I)I" } : Jvm.MethodName) : Cond) ∈ wG := wGm 751 (by decide +kernel) (by decide +kernel)
theorem q752 : (Jvm.Cond.selects "ProcessMinerModel" ({ cls := "ProcessMinerModel", name := "endTrace", desc := "(I)I" } : Jvm.MethodName) ({ cls := "ProcessMinerModel", name := "endTrace", desc := "(I)I" } : Jvm.MethodName) : Cond) ∈ wG := wGm 752 (by decide +kernel) (by decide +kernel)
theorem q753 : (Jvm.Cond.code ({ cls := "ProcessMinerModel", name := "endTrace", desc := "(I)I" } : Jvm.MethodName) prog_6_method_9_code (3 : Nat) (Option.some Jvm.ClassFile.FieldType.int) : Cond) ∈ wG := wGm 753 (by decide +kernel) (by decide +kernel)
theorem q754 : (Jvm.Cond.methodLink "ProcessMinerModel" (52 : Nat) ({ cls := "ProcessMinerModel", name := "isTimes", desc := "(I)Z" } : Jvm.MethodName) : Cond) ∈ wG := wGm 754 (by decide +kernel) (by decide +kernel)
theorem q755 : (Jvm.Cond.static ({ cls := "ProcessMinerModel", name := "isTimes", desc := "(I)Z" } : Jvm.MethodName) : Cond) ∈ wG := wGm 755 (by decide +kernel) (by decide +kernel)
theorem q756 : (Jvm.Cond.code ({ cls := "ProcessMinerModel", name := "isTimes", desc := "(I)Z" } : Jvm.MethodName) prog_6_method_6_code (1 : Nat) (Option.some Jvm.ClassFile.FieldType.boolean) : Cond) ∈ wG := wGm 756 (by decide +kernel) (by decide +kernel)
theorem q757 : (Jvm.Cond.methodLink "ProcessMinerLaw" (101 : Nat) ({ cls := "ProcessMinerModel", name := "setTimes", desc := "(II)I" } : Jvm.MethodName) : Cond) ∈ wG := wGm 757 (by decide +kernel) (by decide +kernel)
theorem q758 : (Jvm.Cond.instanceMethod ({ cls := "ProcessMinerModel", name := "setTimes", desc := "(II)I" } : Jvm.MethodName) : Cond) ∈ wG := wGm 758 (by decide +kernel) (by decide +kernel)
theorem q759 : (Jvm.Cond.selects "ProcessMinerModel" ({ cls := "ProcessMinerModel", name := "setTimes", desc := "(II)I" } : Jvm.MethodName) ({ cls := "ProcessMinerModel", name := "setTimes", desc := "(II)I" } : Jvm.MethodName) : Cond) ∈ wG := wGm 759 (by decide +kernel) (by decide +kernel)
theorem q760 : (Jvm.Cond.code ({ cls := "ProcessMinerModel", name := "setTimes", desc := "(II)I" } : Jvm.MethodName) prog_6_method_10_code (4 : Nat) (Option.some Jvm.ClassFile.FieldType.int) : Cond) ∈ wG := wGm 760 (by decide +kernel) (by decide +kernel)
theorem q761 : (Jvm.Cond.methodLink "ProcessMinerModel" (59 : Nat) ({ cls := "ProcessMinerModel", name := "isTrace", desc := "(I)Z" } : Jvm.MethodName) : Cond) ∈ wG := wGm 761 (by decide +kernel) (by decide +kernel)
theorem q763 : (Jvm.Cond.instanceMethod ({ cls := "ProcessMinerModel", name := "isTrace", desc := "(I)Z" } : Jvm.MethodName) : Cond) ∈ wG := wGm 763 (by decide +kernel) (by decide +kernel)
theorem q764 : (Jvm.Cond.code ({ cls := "ProcessMinerModel", name := "isTrace", desc := "(I)Z" } : Jvm.MethodName) prog_6_method_5_code (2 : Nat) (Option.some Jvm.ClassFile.FieldType.boolean) : Cond) ∈ wG := wGm 764 (by decide +kernel) (by decide +kernel)
theorem q765 : (Jvm.Cond.methodLink "ProcessMinerLaw" (105 : Nat) ({ cls := "ProcessMinerModel", name := "dropTrace", desc := "()I" } : Jvm.MethodName) : Cond) ∈ wG := wGm 765 (by decide +kernel) (by decide +kernel)
theorem q766 : (Jvm.Cond.instanceMethod ({ cls := "ProcessMinerModel", name := "dropTrace", desc := "()I" } : Jvm.MethodName) : Cond) ∈ wG := wGm 766 (by decide +kernel) (by decide +kernel)
theorem q767 : (Jvm.Cond.selects "ProcessMinerModel" ({ cls := "ProcessMinerModel", name := "dropTrace", desc := "()I" } : Jvm.MethodName) ({ cls := "ProcessMinerModel", name := "dropTrace", desc := "()I" } : Jvm.MethodName) : Cond) ∈ wG := wGm 767 (by decide +kernel) (by decide +kernel)
theorem q768 : (Jvm.Cond.code ({ cls := "ProcessMinerModel", name := "dropTrace", desc := "()I" } : Jvm.MethodName) prog_6_method_11_code (1 : Nat) (Option.some Jvm.ClassFile.FieldType.int) : Cond) ∈ wG := wGm 768 (by decide +kernel) (by decide +kernel)
theorem q769 : (Jvm.Cond.methodLink "ProcessMinerLaw" (109 : Nat) ({ cls := "ProcessMinerModel", name := "traceCount", desc := "()I" } : Jvm.MethodName) : Cond) ∈ wG := wGm 769 (by decide +kernel) (by decide +kernel)
theorem q770 : (Jvm.Cond.instanceMethod ({ cls := "ProcessMinerModel", name := "traceCount", desc := "()I" } : Jvm.MethodName) : Cond) ∈ wG := wGm 770 (by decide +kernel) (by decide +kernel)
theorem q771 : (Jvm.Cond.selects "ProcessMinerModel" ({ cls := "ProcessMinerModel", name := "traceCount", desc := "()I" } : Jvm.MethodName) ({ cls := "ProcessMinerModel", name := "traceCount", desc := "()I" } : Jvm.MethodName) : Cond) ∈ wG := wGm 771 (by decide +kernel) (by decide +kernel)
theorem q772 : (Jvm.Cond.code ({ cls := "ProcessMinerModel", name := "traceCount", desc := "()I" } : Jvm.MethodName) prog_6_method_12_code (1 : Nat) (Option.some Jvm.ClassFile.FieldType.int) : Cond) ∈ wG := wGm 772 (by decide +kernel) (by decide +kernel)
theorem q773 : (Jvm.Cond.methodLink "ProcessMinerLaw" (112 : Nat) ({ cls := "ProcessMinerModel", name := "length", desc := "(I)I" } : Jvm.MethodName) : Cond) ∈ wG := wGm 773 (by decide +kernel) (by decide +kernel)
theorem q774 : (Jvm.Cond.instanceMethod ({ cls := "ProcessMinerModel", name := "length", desc := "(I)I" } : Jvm.MethodName) : Cond) ∈ wG := wGm 774 (by decide +kernel) (by decide +kernel)
theorem q775 : (Jvm.Cond.selects "ProcessMinerModel" ({ cls := "ProcessMinerModel", name := "length", desc := "(I)I" } : Jvm.MethodName) ({ cls := "ProcessMinerModel", name := "length", desc := "(I)I" } : Jvm.MethodName) : Cond) ∈ wG := wGm 775 (by decide +kernel) (by decide +kernel)
theorem q776 : (Jvm.Cond.code ({ cls := "ProcessMinerModel", name := "length", desc := "(I)I" } : Jvm.MethodName) prog_6_method_13_code (2 : Nat) (Option.some Jvm.ClassFile.FieldType.int) : Cond) ∈ wG := wGm 776 (by decide +kernel) (by decide +kernel)
theorem q777 : (Jvm.Cond.methodLink "ProcessMinerLaw" (115 : Nat) ({ cls := "ProcessMinerModel", name := "labelAt", desc := "(II)I" } : Jvm.MethodName) : Cond) ∈ wG := wGm 777 (by decide +kernel) (by decide +kernel)
theorem q778 : (Jvm.Cond.instanceMethod ({ cls := "ProcessMinerModel", name := "labelAt", desc := "(II)I" } : Jvm.MethodName) : Cond) ∈ wG := wGm 778 (by decide +kernel) (by decide +kernel)
theorem q779 : (Jvm.Cond.selects "ProcessMinerModel" ({ cls := "ProcessMinerModel", name := "labelAt", desc := "(II)I" } : Jvm.MethodName) ({ cls := "ProcessMinerModel", name := "labelAt", desc := "(II)I" } : Jvm.MethodName) : Cond) ∈ wG := wGm 779 (by decide +kernel) (by decide +kernel)
theorem q780 : (Jvm.Cond.code ({ cls := "ProcessMinerModel", name := "labelAt", desc := "(II)I" } : Jvm.MethodName) prog_6_method_14_code (3 : Nat) (Option.some Jvm.ClassFile.FieldType.int) : Cond) ∈ wG := wGm 780 (by decide +kernel) (by decide +kernel)
theorem q781 : (Jvm.Cond.methodLink "ProcessMinerLaw" (119 : Nat) ({ cls := "ProcessMinerModel", name := "labels", desc := "()I" } : Jvm.MethodName) : Cond) ∈ wG := wGm 781 (by decide +kernel) (by decide +kernel)
theorem q782 : (Jvm.Cond.instanceMethod ({ cls := "ProcessMinerModel", name := "labels", desc := "()I" } : Jvm.MethodName) : Cond) ∈ wG := wGm 782 (by decide +kernel) (by decide +kernel)
theorem q783 : (Jvm.Cond.selects "ProcessMinerModel" ({ cls := "ProcessMinerModel", name := "labels", desc := "()I" } : Jvm.MethodName) ({ cls := "ProcessMinerModel", name := "labels", desc := "()I" } : Jvm.MethodName) : Cond) ∈ wG := wGm 783 (by decide +kernel) (by decide +kernel)
theorem q784 : (Jvm.Cond.code ({ cls := "ProcessMinerModel", name := "labels", desc := "()I" } : Jvm.MethodName) prog_6_method_15_code (4 : Nat) (Option.some Jvm.ClassFile.FieldType.int) : Cond) ∈ wG := wGm 784 (by decide +kernel) (by decide +kernel)
theorem q785 : (Jvm.Cond.methodLink "ProcessMinerLaw" (122 : Nat) ({ cls := "ProcessMinerModel", name := "follows", desc := "(II)I" } : Jvm.MethodName) : Cond) ∈ wG := wGm 785 (by decide +kernel) (by decide +kernel)
theorem q786 : (Jvm.Cond.instanceMethod ({ cls := "ProcessMinerModel", name := "follows", desc := "(II)I" } : Jvm.MethodName) : Cond) ∈ wG := wGm 786 (by decide +kernel) (by decide +kernel)
theorem q787 : (Jvm.Cond.selects "ProcessMinerModel" ({ cls := "ProcessMinerModel", name := "follows", desc := "(II)I" } : Jvm.MethodName) ({ cls := "ProcessMinerModel", name := "follows", desc := "(II)I" } : Jvm.MethodName) : Cond) ∈ wG := wGm 787 (by decide +kernel) (by decide +kernel)
theorem q788 : (Jvm.Cond.code ({ cls := "ProcessMinerModel", name := "follows", desc := "(II)I" } : Jvm.MethodName) prog_6_method_17_code (3 : Nat) (Option.some Jvm.ClassFile.FieldType.int) : Cond) ∈ wG := wGm 788 (by decide +kernel) (by decide +kernel)
theorem q789 : (Jvm.Cond.methodLink "ProcessMinerModel" (62 : Nat) ({ cls := "ProcessMinerModel", name := "countOf", desc := "(II)I" } : Jvm.MethodName) : Cond) ∈ wG := wGm 789 (by decide +kernel) (by decide +kernel)
theorem q791 : (Jvm.Cond.instanceMethod ({ cls := "ProcessMinerModel", name := "countOf", desc := "(II)I" } : Jvm.MethodName) : Cond) ∈ wG := wGm 791 (by decide +kernel) (by decide +kernel)
theorem q792 : (Jvm.Cond.code ({ cls := "ProcessMinerModel", name := "countOf", desc := "(II)I" } : Jvm.MethodName) prog_6_method_16_code (7 : Nat) (Option.some Jvm.ClassFile.FieldType.int) : Cond) ∈ wG := wGm 792 (by decide +kernel) (by decide +kernel)
theorem q793 : (Jvm.Cond.methodLink "ProcessMinerLaw" (127 : Nat) ({ cls := "ProcessMinerModel", name := "edges", desc := "(Z)I" } : Jvm.MethodName) : Cond) ∈ wG := wGm 793 (by decide +kernel) (by decide +kernel)
theorem q794 : (Jvm.Cond.instanceMethod ({ cls := "ProcessMinerModel", name := "edges", desc := "(Z)I" } : Jvm.MethodName) : Cond) ∈ wG := wGm 794 (by decide +kernel) (by decide +kernel)
theorem q795 : (Jvm.Cond.selects "ProcessMinerModel" ({ cls := "ProcessMinerModel", name := "edges", desc := "(Z)I" } : Jvm.MethodName) ({ cls := "ProcessMinerModel", name := "edges", desc := "(Z)I" } : Jvm.MethodName) : Cond) ∈ wG := wGm 795 (by decide +kernel) (by decide +kernel)
theorem q796 : (Jvm.Cond.code ({ cls := "ProcessMinerModel", name := "edges", desc := "(Z)I" } : Jvm.MethodName) prog_6_method_18_code (4 : Nat) (Option.some Jvm.ClassFile.FieldType.int) : Cond) ∈ wG := wGm 796 (by decide +kernel) (by decide +kernel)
theorem q797 : (Jvm.Cond.methodLink "ProcessMinerLaw" (130 : Nat) ({ cls := "ProcessMinerModel", name := "relation", desc := "(II)I" } : Jvm.MethodName) : Cond) ∈ wG := wGm 797 (by decide +kernel) (by decide +kernel)
theorem q798 : (Jvm.Cond.instanceMethod ({ cls := "ProcessMinerModel", name := "relation", desc := "(II)I" } : Jvm.MethodName) : Cond) ∈ wG := wGm 798 (by decide +kernel) (by decide +kernel)
theorem q799 : (Jvm.Cond.selects "ProcessMinerModel" ({ cls := "ProcessMinerModel", name := "relation", desc := "(II)I" } : Jvm.MethodName) ({ cls := "ProcessMinerModel", name := "relation", desc := "(II)I" } : Jvm.MethodName) : Cond) ∈ wG := wGm 799 (by decide +kernel) (by decide +kernel)
theorem q800 : (Jvm.Cond.code ({ cls := "ProcessMinerModel", name := "relation", desc := "(II)I" } : Jvm.MethodName) prog_6_method_19_code (3 : Nat) (Option.some Jvm.ClassFile.FieldType.int) : Cond) ∈ wG := wGm 800 (by decide +kernel) (by decide +kernel)
theorem q801 : (Jvm.Cond.methodLink "ProcessMinerLaw" (133 : Nat) ({ cls := "ProcessMinerModel", name := "leads", desc := "(II)Z" } : Jvm.MethodName) : Cond) ∈ wG := wGm 801 (by decide +kernel) (by decide +kernel)
theorem q802 : (Jvm.Cond.instanceMethod ({ cls := "ProcessMinerModel", name := "leads", desc := "(II)Z" } : Jvm.MethodName) : Cond) ∈ wG := wGm 802 (by decide +kernel) (by decide +kernel)
theorem q803 : (Jvm.Cond.selects "ProcessMinerModel" ({ cls := "ProcessMinerModel", name := "leads", desc := "(II)Z" } : Jvm.MethodName) ({ cls := "ProcessMinerModel", name := "leads", desc := "(II)Z" } : Jvm.MethodName) : Cond) ∈ wG := wGm 803 (by decide +kernel) (by decide +kernel)
theorem q804 : (Jvm.Cond.code ({ cls := "ProcessMinerModel", name := "leads", desc := "(II)Z" } : Jvm.MethodName) prog_6_method_20_code (7 : Nat) (Option.some Jvm.ClassFile.FieldType.boolean) : Cond) ∈ wG := wGm 804 (by decide +kernel) (by decide +kernel)
theorem q805 : (Jvm.Cond.methodLink "ProcessMinerModel" (66 : Nat) ({ cls := "ProcessMinerModel", name := "has", desc := "(II)Z" } : Jvm.MethodName) : Cond) ∈ wG := wGm 805 (by decide +kernel) (by decide +kernel)
theorem q806 : (Jvm.Cond.static ({ cls := "ProcessMinerModel", name := "has", desc := "(II)Z" } : Jvm.MethodName) : Cond) ∈ wG := wGm 806 (by decide +kernel) (by decide +kernel)
theorem q807 : (Jvm.Cond.code ({ cls := "ProcessMinerModel", name := "has", desc := "(II)Z" } : Jvm.MethodName) prog_6_method_7_code (2 : Nat) (Option.some Jvm.ClassFile.FieldType.boolean) : Cond) ∈ wG := wGm 807 (by decide +kernel) (by decide +kernel)
theorem q808 : (Jvm.Cond.methodLink "ProcessMinerLaw" (137 : Nat) ({ cls := "ProcessMinerModel", name := "variants", desc := "()I" } : Jvm.MethodName) : Cond) ∈ wG := wGm 808 (by decide +kernel) (by decide +kernel)
theorem q809 : (Jvm.Cond.instanceMethod ({ cls := "ProcessMinerModel", name := "variants", desc := "()I" } : Jvm.MethodName) : Cond) ∈ wG := wGm 809 (by decide +kernel) (by decide +kernel)
theorem q810 : (Jvm.Cond.selects "ProcessMinerModel" ({ cls := "ProcessMinerModel", name := "variants", desc := "()I" } : Jvm.MethodName) ({ cls := "ProcessMinerModel", name := "variants", desc := "()I" } : Jvm.MethodName) : Cond) ∈ wG := wGm 810 (by decide +kernel) (by decide +kernel)
theorem q811 : (Jvm.Cond.code ({ cls := "ProcessMinerModel", name := "variants", desc := "()I" } : Jvm.MethodName) prog_6_method_21_code (7 : Nat) (Option.some Jvm.ClassFile.FieldType.int) : Cond) ∈ wG := wGm 811 (by decide +kernel) (by decide +kernel)
theorem q812 : (Jvm.Cond.methodLink "ProcessMinerLaw" (141 : Nat) ({ cls := "ProcessMinerModel", name := "mine", desc := "()I" } : Jvm.MethodName) : Cond) ∈ wG := wGm 812 (by decide +kernel) (by decide +kernel)
theorem q813 : (Jvm.Cond.instanceMethod ({ cls := "ProcessMinerModel", name := "mine", desc := "()I" } : Jvm.MethodName) : Cond) ∈ wG := wGm 813 (by decide +kernel) (by decide +kernel)
theorem q814 : (Jvm.Cond.selects "ProcessMinerModel" ({ cls := "ProcessMinerModel", name := "mine", desc := "()I" } : Jvm.MethodName) ({ cls := "ProcessMinerModel", name := "mine", desc := "()I" } : Jvm.MethodName) : Cond) ∈ wG := wGm 814 (by decide +kernel) (by decide +kernel)
theorem q815 : (Jvm.Cond.code ({ cls := "ProcessMinerModel", name := "mine", desc := "()I" } : Jvm.MethodName) prog_6_method_36_code (5 : Nat) (Option.some Jvm.ClassFile.FieldType.int) : Cond) ∈ wG := wGm 815 (by decide +kernel) (by decide +kernel)
theorem q816 : (Jvm.Cond.classLink "ProcessMinerModel" (84 : Nat) "[I" : Cond) ∈ wG := wGm 816 (by decide +kernel) (by decide +kernel)
theorem q818 : (Jvm.Cond.methodLink "ProcessMinerModel" (85 : Nat) ({ cls := "ProcessMinerModel", name := "shortened", desc := "([[II)[[I" } : Jvm.MethodName) : Cond) ∈ wG := wGm 818 (by decide +kernel) (by decide +kernel)
theorem q819 : (Jvm.Cond.static ({ cls := "ProcessMinerModel", name := "shortened", desc := "([[II)[[I" } : Jvm.MethodName) : Cond) ∈ wG := wGm 819 (by decide +kernel) (by decide +kernel)
theorem q820 : (Jvm.Cond.code ({ cls := "ProcessMinerModel", name := "shortened", desc := "([[II)[[I" } : Jvm.MethodName) prog_6_method_27_code (4 : Nat) (Option.some (Jvm.ClassFile.FieldType.array (Jvm.ClassFile.FieldType.array Jvm.ClassFile.FieldType.int))) : Cond) ∈ wG := wGm 820 (by decide +kernel) (by decide +kernel)
theorem q821 : (Jvm.Cond.methodLink "ProcessMinerModel" (109 : Nat) ({ cls := "ProcessMinerModel", name := "mineInto", desc := "([[II)V" } : Jvm.MethodName) : Cond) ∈ wG := wGm 821 (by decide +kernel) (by decide +kernel)
theorem q823 : (Jvm.Cond.instanceMethod ({ cls := "ProcessMinerModel", name := "mineInto", desc := "([[II)V" } : Jvm.MethodName) : Cond) ∈ wG := wGm 823 (by decide +kernel) (by decide +kernel)
theorem q824 : (Jvm.Cond.code ({ cls := "ProcessMinerModel", name := "mineInto", desc := "([[II)V" } : Jvm.MethodName) prog_6_method_30_code (10 : Nat) (Option.none : Option Jvm.ClassFile.FieldType) : Cond) ∈ wG := wGm 824 (by decide +kernel) (by decide +kernel)
theorem q825 : (Jvm.Cond.methodLink "ProcessMinerModel" (97 : Nat) ({ cls := "ProcessMinerModel", name := "labelsIn", desc := "([[I)I" } : Jvm.MethodName) : Cond) ∈ wG := wGm 825 (by decide +kernel) (by decide +kernel)
theorem q826 : (Jvm.Cond.static ({ cls := "ProcessMinerModel", name := "labelsIn", desc := "([[I)I" } : Jvm.MethodName) : Cond) ∈ wG := wGm 826 (by decide +kernel) (by decide +kernel)
theorem q827 : (Jvm.Cond.code ({ cls := "ProcessMinerModel", name := "labelsIn", desc := "([[I)I" } : Jvm.MethodName) prog_6_method_22_code (10 : Nat) (Option.some Jvm.ClassFile.FieldType.int) : Cond) ∈ wG := wGm 827 (by decide +kernel) (by decide +kernel)
theorem q828 : (Jvm.Cond.methodLink "ProcessMinerModel" (101 : Nat) ({ cls := "ProcessMinerModel", name := "add", desc := "(III)I" } : Jvm.MethodName) : Cond) ∈ wG := wGm 828 (by decide +kernel) (by decide +kernel)
theorem q830 : (Jvm.Cond.instanceMethod ({ cls := "ProcessMinerModel", name := "add", desc := "(III)I" } : Jvm.MethodName) : Cond) ∈ wG := wGm 830 (by decide +kernel) (by decide +kernel)
theorem q831 : (Jvm.Cond.code ({ cls := "ProcessMinerModel", name := "add", desc := "(III)I" } : Jvm.MethodName) prog_6_method_29_code (4 : Nat) (Option.some Jvm.ClassFile.FieldType.int) : Cond) ∈ wG := wGm 831 (by decide +kernel) (by decide +kernel)
theorem q832 : (Jvm.Cond.methodLink "ProcessMinerModel" (105 : Nat) ({ cls := "ProcessMinerModel", name := "only", desc := "([[IIZ)[[I" } : Jvm.MethodName) : Cond) ∈ wG := wGm 832 (by decide +kernel) (by decide +kernel)
theorem q833 : (Jvm.Cond.static ({ cls := "ProcessMinerModel", name := "only", desc := "([[IIZ)[[I" } : Jvm.MethodName) : Cond) ∈ wG := wGm 833 (by decide +kernel) (by decide +kernel)
theorem q834 : (Jvm.Cond.code ({ cls := "ProcessMinerModel", name := "only", desc := "([[IIZ)[[I" } : Jvm.MethodName) prog_6_method_26_code (15 : Nat) (Option.some (Jvm.ClassFile.FieldType.array (Jvm.ClassFile.FieldType.array Jvm.ClassFile.FieldType.int))) : Cond) ∈ wG := wGm 834 (by decide +kernel) (by decide +kernel)
theorem q835 : (Jvm.Cond.methodLink "ProcessMinerModel" (70 : Nat) ({ cls := "java/lang/Integer", name := "bitCount", desc := "(I)I" } : Jvm.MethodName) : Cond) ∈ wG := wGm 835 (by decide +kernel) (by decide +kernel)
theorem q836 : (Jvm.Cond.methodLink "ProcessMinerModel" (113 : Nat) ({ cls := "ProcessMinerModel", name := "followers", desc := "([[I)[I" } : Jvm.MethodName) : Cond) ∈ wG := wGm 836 (by decide +kernel) (by decide +kernel)
theorem q837 : (Jvm.Cond.static ({ cls := "ProcessMinerModel", name := "followers", desc := "([[I)[I" } : Jvm.MethodName) : Cond) ∈ wG := wGm 837 (by decide +kernel) (by decide +kernel)
theorem q838 : (Jvm.Cond.code ({ cls := "ProcessMinerModel", name := "followers", desc := "([[I)[I" } : Jvm.MethodName) prog_6_method_24_code (7 : Nat) (Option.some (Jvm.ClassFile.FieldType.array Jvm.ClassFile.FieldType.int)) : Cond) ∈ wG := wGm 838 (by decide +kernel) (by decide +kernel)
theorem q839 : (Jvm.Cond.methodLink "ProcessMinerModel" (117 : Nat) ({ cls := "ProcessMinerModel", name := "mineChoice", desc := "([[II[II)Z" } : Jvm.MethodName) : Cond) ∈ wG := wGm 839 (by decide +kernel) (by decide +kernel)
theorem q841 : (Jvm.Cond.instanceMethod ({ cls := "ProcessMinerModel", name := "mineChoice", desc := "([[II[II)Z" } : Jvm.MethodName) : Cond) ∈ wG := wGm 841 (by decide +kernel) (by decide +kernel)
theorem q842 : (Jvm.Cond.code ({ cls := "ProcessMinerModel", name := "mineChoice", desc := "([[II[II)Z" } : Jvm.MethodName) prog_6_method_31_code (11 : Nat) (Option.some Jvm.ClassFile.FieldType.boolean) : Cond) ∈ wG := wGm 842 (by decide +kernel) (by decide +kernel)
theorem q843 : (Jvm.Cond.methodLink "ProcessMinerModel" (130 : Nat) ({ cls := "ProcessMinerModel", name := "parts", desc := "(I[I)[I" } : Jvm.MethodName) : Cond) ∈ wG := wGm 843 (by decide +kernel) (by decide +kernel)
theorem q844 : (Jvm.Cond.static ({ cls := "ProcessMinerModel", name := "parts", desc := "(I[I)[I" } : Jvm.MethodName) : Cond) ∈ wG := wGm 844 (by decide +kernel) (by decide +kernel)
theorem q845 : (Jvm.Cond.code ({ cls := "ProcessMinerModel", name := "parts", desc := "(I[I)[I" } : Jvm.MethodName) prog_6_method_25_code (9 : Nat) (Option.some (Jvm.ClassFile.FieldType.array Jvm.ClassFile.FieldType.int)) : Cond) ∈ wG := wGm 845 (by decide +kernel) (by decide +kernel)
theorem q846 : (Jvm.Cond.methodLink "ProcessMinerModel" (75 : Nat) ({ cls := "java/lang/Integer", name := "lowestOneBit", desc := "(I)I" } : Jvm.MethodName) : Cond) ∈ wG := wGm 846 (by decide +kernel) (by decide +kernel)
theorem q847 : (Jvm.Cond.static ({ cls := "java/lang/Integer", name := "lowestOneBit", desc := "(I)I" } : Jvm.MethodName) : Cond) ∈ wG := wGm 847 (by decide +kernel) (by decide +kernel)
theorem q848 : (Jvm.Cond.code ({ cls := "java/lang/Integer", name := "lowestOneBit", desc := "(I)I" } : Jvm.MethodName) prog_12_method_46_code (1 : Nat) (Option.some Jvm.ClassFile.FieldType.int) : Cond) ∈ wG := wGm 848 (by decide +kernel) (by decide +kernel)
theorem q849 : (Jvm.Cond.methodLink "ProcessMinerModel" (78 : Nat) ({ cls := "java/lang/System", name := "arraycopy", desc := "(Ljava/lang/Object;ILjava/lang/Object;II)V" } : Jvm.MethodName) : Cond) ∈ wG := wGm 849 (by decide +kernel) (by decide +kernel)
theorem q850 : (Jvm.Cond.static ({ cls := "java/lang/System", name := "arraycopy", desc := "(Ljava/lang/Object;ILjava/lang/Object;II)V" } : Jvm.MethodName) : Cond) ∈ wG := wGm 850 (by decide +kernel) (by decide +kernel)
theorem q851 : (Jvm.Cond.native ({ cls := "java/lang/System", name := "arraycopy", desc := "(Ljava/lang/Object;ILjava/lang/Object;II)V" } : Jvm.MethodName) : Cond) ∈ wG := wGm 851 (by decide +kernel) (by decide +kernel)
theorem q852 : (Jvm.Cond.methodLink "ProcessMinerModel" (121 : Nat) ({ cls := "ProcessMinerModel", name := "mineOrder", desc := "([[II[II)Z" } : Jvm.MethodName) : Cond) ∈ wG := wGm 852 (by decide +kernel) (by decide +kernel)
theorem q854 : (Jvm.Cond.instanceMethod ({ cls := "ProcessMinerModel", name := "mineOrder", desc := "([[II[II)Z" } : Jvm.MethodName) : Cond) ∈ wG := wGm 854 (by decide +kernel) (by decide +kernel)
theorem q855 : (Jvm.Cond.code ({ cls := "ProcessMinerModel", name := "mineOrder", desc := "([[II[II)Z" } : Jvm.MethodName) prog_6_method_32_code (19 : Nat) (Option.some Jvm.ClassFile.FieldType.boolean) : Cond) ∈ wG := wGm 855 (by decide +kernel) (by decide +kernel)
theorem q856 : (Jvm.Cond.methodLink "ProcessMinerModel" (134 : Nat) ({ cls := "[I", name := "clone", desc := "()Ljava/lang/Object;" } : Jvm.MethodName) : Cond) ∈ wG := wGm 856 (by decide +kernel) (by decide +kernel)
theorem q857 : (Jvm.Cond.sameMethod "[I" "java/lang/Object" "clone" "()Ljava/lang/Object;" : Cond) ∈ wG := wGm 857 (by decide +kernel) (by decide +kernel)
theorem q858 : (Jvm.Cond.native ({ cls := "java/lang/Object", name := "clone", desc := "()Ljava/lang/Object;" } : Jvm.MethodName) : Cond) ∈ wG := wGm 858 (by decide +kernel) (by decide +kernel)
theorem q859 : (Jvm.Cond.instanceMethod ({ cls := "java/lang/Object", name := "clone", desc := "()Ljava/lang/Object;" } : Jvm.MethodName) : Cond) ∈ wG := wGm 859 (by decide +kernel) (by decide +kernel)
theorem q860 : (Jvm.Cond.selects "[I" ({ cls := "[I", name := "clone", desc := "()Ljava/lang/Object;" } : Jvm.MethodName) ({ cls := "java/lang/Object", name := "clone", desc := "()Ljava/lang/Object;" } : Jvm.MethodName) : Cond) ∈ wG := wGm 860 (by decide +kernel) (by decide +kernel)
theorem q862 : (Jvm.Cond.methodLink "ProcessMinerModel" (138 : Nat) ({ cls := "java/lang/Integer", name := "numberOfTrailingZeros", desc := "(I)I" } : Jvm.MethodName) : Cond) ∈ wG := wGm 862 (by decide +kernel) (by decide +kernel)
theorem q863 : (Jvm.Cond.static ({ cls := "java/lang/Integer", name := "numberOfTrailingZeros", desc := "(I)I" } : Jvm.MethodName) : Cond) ∈ wG := wGm 863 (by decide +kernel) (by decide +kernel)
theorem q864 : (Jvm.Cond.code ({ cls := "java/lang/Integer", name := "numberOfTrailingZeros", desc := "(I)I" } : Jvm.MethodName) prog_12_method_48_code (2 : Nat) (Option.some Jvm.ClassFile.FieldType.int) : Cond) ∈ wG := wGm 864 (by decide +kernel) (by decide +kernel)
theorem q865 : (Jvm.Cond.constant "java/lang/Integer" (264 : Nat) (65536 : Int32) : Cond) ∈ wG := wGm 865 (by decide +kernel) (by decide +kernel)
theorem q866 : (Jvm.Cond.methodLink "ProcessMinerModel" (124 : Nat) ({ cls := "ProcessMinerModel", name := "mineBoth", desc := "([[II[II)Z" } : Jvm.MethodName) : Cond) ∈ wG := wGm 866 (by decide +kernel) (by decide +kernel)
theorem q868 : (Jvm.Cond.instanceMethod ({ cls := "ProcessMinerModel", name := "mineBoth", desc := "([[II[II)Z" } : Jvm.MethodName) : Cond) ∈ wG := wGm 868 (by decide +kernel) (by decide +kernel)
theorem q869 : (Jvm.Cond.code ({ cls := "ProcessMinerModel", name := "mineBoth", desc := "([[II[II)Z" } : Jvm.MethodName) prog_6_method_33_code (14 : Nat) (Option.some Jvm.ClassFile.FieldType.boolean) : Cond) ∈ wG := wGm 869 (by decide +kernel) (by decide +kernel)
theorem q870 : (Jvm.Cond.methodLink "ProcessMinerModel" (141 : Nat) ({ cls := "ProcessMinerModel", name := "edgesIn", desc := "([[IZ)I" } : Jvm.MethodName) : Cond) ∈ wG := wGm 870 (by decide +kernel) (by decide +kernel)
theorem q871 : (Jvm.Cond.static ({ cls := "ProcessMinerModel", name := "edgesIn", desc := "([[IZ)I" } : Jvm.MethodName) : Cond) ∈ wG := wGm 871 (by decide +kernel) (by decide +kernel)
theorem q872 : (Jvm.Cond.code ({ cls := "ProcessMinerModel", name := "edgesIn", desc := "([[IZ)I" } : Jvm.MethodName) prog_6_method_23_code (7 : Nat) (Option.some Jvm.ClassFile.FieldType.int) : Cond) ∈ wG := wGm 872 (by decide +kernel) (by decide +kernel)
theorem q873 : (Jvm.Cond.methodLink "ProcessMinerModel" (145 : Nat) ({ cls := "java/lang/Math", name := "min", desc := "(II)I" } : Jvm.MethodName) : Cond) ∈ wG := wGm 873 (by decide +kernel) (by decide +kernel)
theorem q874 : (Jvm.Cond.methodLink "ProcessMinerModel" (89 : Nat) ({ cls := "java/lang/Math", name := "max", desc := "(II)I" } : Jvm.MethodName) : Cond) ∈ wG := wGm 874 (by decide +kernel) (by decide +kernel)
theorem q875 : (Jvm.Cond.methodLink "ProcessMinerModel" (127 : Nat) ({ cls := "ProcessMinerModel", name := "mineAgain", desc := "([[II[II)Z" } : Jvm.MethodName) : Cond) ∈ wG := wGm 875 (by decide +kernel) (by decide +kernel)
theorem q877 : (Jvm.Cond.instanceMethod ({ cls := "ProcessMinerModel", name := "mineAgain", desc := "([[II[II)Z" } : Jvm.MethodName) : Cond) ∈ wG := wGm 877 (by decide +kernel) (by decide +kernel)
theorem q878 : (Jvm.Cond.code ({ cls := "ProcessMinerModel", name := "mineAgain", desc := "([[II[II)Z" } : Jvm.MethodName) prog_6_method_34_code (15 : Nat) (Option.some Jvm.ClassFile.FieldType.boolean) : Cond) ∈ wG := wGm 878 (by decide +kernel) (by decide +kernel)
theorem q879 : (Jvm.Cond.methodLink "ProcessMinerModel" (148 : Nat) ({ cls := "ProcessMinerModel", name := "belongs", desc := "(IIII[I)Z" } : Jvm.MethodName) : Cond) ∈ wG := wGm 879 (by decide +kernel) (by decide +kernel)
theorem q880 : (Jvm.Cond.static ({ cls := "ProcessMinerModel", name := "belongs", desc := "(IIII[I)Z" } : Jvm.MethodName) : Cond) ∈ wG := wGm 880 (by decide +kernel) (by decide +kernel)
theorem q881 : (Jvm.Cond.code ({ cls := "ProcessMinerModel", name := "belongs", desc := "(IIII[I)Z" } : Jvm.MethodName) prog_6_method_35_code (8 : Nat) (Option.some Jvm.ClassFile.FieldType.boolean) : Cond) ∈ wG := wGm 881 (by decide +kernel) (by decide +kernel)
theorem q882 : (Jvm.Cond.methodLink "ProcessMinerModel" (152 : Nat) ({ cls := "ProcessMinerModel", name := "pieces", desc := "([[II)[[I" } : Jvm.MethodName) : Cond) ∈ wG := wGm 882 (by decide +kernel) (by decide +kernel)
theorem q883 : (Jvm.Cond.static ({ cls := "ProcessMinerModel", name := "pieces", desc := "([[II)[[I" } : Jvm.MethodName) : Cond) ∈ wG := wGm 883 (by decide +kernel) (by decide +kernel)
theorem q884 : (Jvm.Cond.code ({ cls := "ProcessMinerModel", name := "pieces", desc := "([[II)[[I" } : Jvm.MethodName) prog_6_method_28_code (10 : Nat) (Option.some (Jvm.ClassFile.FieldType.array (Jvm.ClassFile.FieldType.array Jvm.ClassFile.FieldType.int))) : Cond) ∈ wG := wGm 884 (by decide +kernel) (by decide +kernel)
theorem q885 : (Jvm.Cond.methodLink "ProcessMinerLaw" (144 : Nat) ({ cls := "ProcessMinerModel", name := "kind", desc := "(I)I" } : Jvm.MethodName) : Cond) ∈ wG := wGm 885 (by decide +kernel) (by decide +kernel)
theorem q886 : (Jvm.Cond.instanceMethod ({ cls := "ProcessMinerModel", name := "kind", desc := "(I)I" } : Jvm.MethodName) : Cond) ∈ wG := wGm 886 (by decide +kernel) (by decide +kernel)
theorem q887 : (Jvm.Cond.selects "ProcessMinerModel" ({ cls := "ProcessMinerModel", name := "kind", desc := "(I)I" } : Jvm.MethodName) ({ cls := "ProcessMinerModel", name := "kind", desc := "(I)I" } : Jvm.MethodName) : Cond) ∈ wG := wGm 887 (by decide +kernel) (by decide +kernel)
theorem q888 : (Jvm.Cond.code ({ cls := "ProcessMinerModel", name := "kind", desc := "(I)I" } : Jvm.MethodName) prog_6_method_38_code (2 : Nat) (Option.some Jvm.ClassFile.FieldType.int) : Cond) ∈ wG := wGm 888 (by decide +kernel) (by decide +kernel)
theorem q889 : (Jvm.Cond.methodLink "ProcessMinerModel" (155 : Nat) ({ cls := "ProcessMinerModel", name := "asks", desc := "(II)Z" } : Jvm.MethodName) : Cond) ∈ wG := wGm 889 (by decide +kernel) (by decide +kernel)
theorem q891 : (Jvm.Cond.instanceMethod ({ cls := "ProcessMinerModel", name := "asks", desc := "(II)Z" } : Jvm.MethodName) : Cond) ∈ wG := wGm 891 (by decide +kernel) (by decide +kernel)
theorem q892 : (Jvm.Cond.code ({ cls := "ProcessMinerModel", name := "asks", desc := "(II)Z" } : Jvm.MethodName) prog_6_method_37_code (3 : Nat) (Option.some Jvm.ClassFile.FieldType.boolean) : Cond) ∈ wG := wGm 892 (by decide +kernel) (by decide +kernel)
theorem q893 : (Jvm.Cond.methodLink "ProcessMinerLaw" (147 : Nat) ({ cls := "ProcessMinerModel", name := "labelsOf", desc := "(I)I" } : Jvm.MethodName) : Cond) ∈ wG := wGm 893 (by decide +kernel) (by decide +kernel)
theorem q894 : (Jvm.Cond.instanceMethod ({ cls := "ProcessMinerModel", name := "labelsOf", desc := "(I)I" } : Jvm.MethodName) : Cond) ∈ wG := wGm 894 (by decide +kernel) (by decide +kernel)
theorem q895 : (Jvm.Cond.selects "ProcessMinerModel" ({ cls := "ProcessMinerModel", name := "labelsOf", desc := "(I)I" } : Jvm.MethodName) ({ cls := "ProcessMinerModel", name := "labelsOf", desc := "(I)I" } : Jvm.MethodName) : Cond) ∈ wG := wGm 895 (by decide +kernel) (by decide +kernel)
theorem q896 : (Jvm.Cond.code ({ cls := "ProcessMinerModel", name := "labelsOf", desc := "(I)I" } : Jvm.MethodName) prog_6_method_39_code (2 : Nat) (Option.some Jvm.ClassFile.FieldType.int) : Cond) ∈ wG := wGm 896 (by decide +kernel) (by decide +kernel)
theorem q897 : (Jvm.Cond.methodLink "ProcessMinerLaw" (150 : Nat) ({ cls := "ProcessMinerModel", name := "parent", desc := "(I)I" } : Jvm.MethodName) : Cond) ∈ wG := wGm 897 (by decide +kernel) (by decide +kernel)
theorem q898 : (Jvm.Cond.instanceMethod ({ cls := "ProcessMinerModel", name := "parent", desc := "(I)I" } : Jvm.MethodName) : Cond) ∈ wG := wGm 898 (by decide +kernel) (by decide +kernel)
theorem q899 : (Jvm.Cond.selects "ProcessMinerModel" ({ cls := "ProcessMinerModel", name := "parent", desc := "(I)I" } : Jvm.MethodName) ({ cls := "ProcessMinerModel", name := "parent", desc := "(I)I" } : Jvm.MethodName) : Cond) ∈ wG := wGm 899 (by decide +kernel) (by decide +kernel)
theorem q900 : (Jvm.Cond.code ({ cls := "ProcessMinerModel", name := "parent", desc := "(I)I" } : Jvm.MethodName) prog_6_method_40_code (2 : Nat) (Option.some Jvm.ClassFile.FieldType.int) : Cond) ∈ wG := wGm 900 (by decide +kernel) (by decide +kernel)
theorem q901 : (Jvm.Cond.methodLink "ProcessMinerLaw" (153 : Nat) ({ cls := "ProcessMinerModel", name := "children", desc := "(I)I" } : Jvm.MethodName) : Cond) ∈ wG := wGm 901 (by decide +kernel) (by decide +kernel)
theorem q902 : (Jvm.Cond.instanceMethod ({ cls := "ProcessMinerModel", name := "children", desc := "(I)I" } : Jvm.MethodName) : Cond) ∈ wG := wGm 902 (by decide +kernel) (by decide +kernel)
theorem q903 : (Jvm.Cond.selects "ProcessMinerModel" ({ cls := "ProcessMinerModel", name := "children", desc := "(I)I" } : Jvm.MethodName) ({ cls := "ProcessMinerModel", name := "children", desc := "(I)I" } : Jvm.MethodName) : Cond) ∈ wG := wGm 903 (by decide +kernel) (by decide +kernel)
theorem q904 : (Jvm.Cond.code ({ cls := "ProcessMinerModel", name := "children", desc := "(I)I" } : Jvm.MethodName) prog_6_method_43_code (2 : Nat) (Option.some Jvm.ClassFile.FieldType.int) : Cond) ∈ wG := wGm 904 (by decide +kernel) (by decide +kernel)
theorem q905 : (Jvm.Cond.methodLink "ProcessMinerModel" (158 : Nat) ({ cls := "ProcessMinerModel", name := "childCount", desc := "(I)I" } : Jvm.MethodName) : Cond) ∈ wG := wGm 905 (by decide +kernel) (by decide +kernel)
theorem q907 : (Jvm.Cond.instanceMethod ({ cls := "ProcessMinerModel", name := "childCount", desc := "(I)I" } : Jvm.MethodName) : Cond) ∈ wG := wGm 907 (by decide +kernel) (by decide +kernel)
theorem q908 : (Jvm.Cond.code ({ cls := "ProcessMinerModel", name := "childCount", desc := "(I)I" } : Jvm.MethodName) prog_6_method_41_code (4 : Nat) (Option.some Jvm.ClassFile.FieldType.int) : Cond) ∈ wG := wGm 908 (by decide +kernel) (by decide +kernel)
theorem q909 : (Jvm.Cond.methodLink "ProcessMinerLaw" (156 : Nat) ({ cls := "ProcessMinerModel", name := "child", desc := "(II)I" } : Jvm.MethodName) : Cond) ∈ wG := wGm 909 (by decide +kernel) (by decide +kernel)
theorem q910 : (Jvm.Cond.instanceMethod ({ cls := "ProcessMinerModel", name := "child", desc := "(II)I" } : Jvm.MethodName) : Cond) ∈ wG := wGm 910 (by decide +kernel) (by decide +kernel)
theorem q911 : (Jvm.Cond.selects "ProcessMinerModel" ({ cls := "ProcessMinerModel", name := "child", desc := "(II)I" } : Jvm.MethodName) ({ cls := "ProcessMinerModel", name := "child", desc := "(II)I" } : Jvm.MethodName) : Cond) ∈ wG := wGm 911 (by decide +kernel) (by decide +kernel)
theorem q912 : (Jvm.Cond.code ({ cls := "ProcessMinerModel", name := "child", desc := "(II)I" } : Jvm.MethodName) prog_6_method_44_code (3 : Nat) (Option.some Jvm.ClassFile.FieldType.int) : Cond) ∈ wG := wGm 912 (by decide +kernel) (by decide +kernel)
theorem q913 : (Jvm.Cond.methodLink "ProcessMinerModel" (161 : Nat) ({ cls := "ProcessMinerModel", name := "childOf", desc := "(II)I" } : Jvm.MethodName) : Cond) ∈ wG := wGm 913 (by decide +kernel) (by decide +kernel)
theorem q915 : (Jvm.Cond.instanceMethod ({ cls := "ProcessMinerModel", name := "childOf", desc := "(II)I" } : Jvm.MethodName) : Cond) ∈ wG := wGm 915 (by decide +kernel) (by decide +kernel)
theorem q916 : (Jvm.Cond.code ({ cls := "ProcessMinerModel", name := "childOf", desc := "(II)I" } : Jvm.MethodName) prog_6_method_42_code (5 : Nat) (Option.some Jvm.ClassFile.FieldType.int) : Cond) ∈ wG := wGm 916 (by decide +kernel) (by decide +kernel)
theorem q917 : (Jvm.Cond.methodLink "ProcessMinerLaw" (159 : Nat) ({ cls := "ProcessMinerModel", name := "shortest", desc := "(I)I" } : Jvm.MethodName) : Cond) ∈ wG := wGm 917 (by decide +kernel) (by decide +kernel)
theorem q918 : (Jvm.Cond.instanceMethod ({ cls := "ProcessMinerModel", name := "shortest", desc := "(I)I" } : Jvm.MethodName) : Cond) ∈ wG := wGm 918 (by decide +kernel) (by decide +kernel)
theorem q919 : (Jvm.Cond.selects "ProcessMinerModel" ({ cls := "ProcessMinerModel", name := "shortest", desc := "(I)I" } : Jvm.MethodName) ({ cls := "ProcessMinerModel", name := "shortest", desc := "(I)I" } : Jvm.MethodName) : Cond) ∈ wG := wGm 919 (by decide +kernel) (by decide +kernel)
theorem q920 : (Jvm.Cond.code ({ cls := "ProcessMinerModel", name := "shortest", desc := "(I)I" } : Jvm.MethodName) prog_6_method_46_code (2 : Nat) (Option.some Jvm.ClassFile.FieldType.int) : Cond) ∈ wG := wGm 920 (by decide +kernel) (by decide +kernel)
theorem q921 : (Jvm.Cond.methodLink "ProcessMinerModel" (164 : Nat) ({ cls := "ProcessMinerModel", name := "shortestOf", desc := "(I)I" } : Jvm.MethodName) : Cond) ∈ wG := wGm 921 (by decide +kernel) (by decide +kernel)
theorem q923 : (Jvm.Cond.instanceMethod ({ cls := "ProcessMinerModel", name := "shortestOf", desc := "(I)I" } : Jvm.MethodName) : Cond) ∈ wG := wGm 923 (by decide +kernel) (by decide +kernel)
theorem q924 : (Jvm.Cond.code ({ cls := "ProcessMinerModel", name := "shortestOf", desc := "(I)I" } : Jvm.MethodName) prog_6_method_45_code (6 : Nat) (Option.some Jvm.ClassFile.FieldType.int) : Cond) ∈ wG := wGm 924 (by decide +kernel) (by decide +kernel)
theorem q925 : (Jvm.Cond.methodLink "ProcessMinerLaw" (162 : Nat) ({ cls := "ProcessMinerModel", name := "height", desc := "()I" } : Jvm.MethodName) : Cond) ∈ wG := wGm 925 (by decide +kernel) (by decide +kernel)
theorem q926 : (Jvm.Cond.instanceMethod ({ cls := "ProcessMinerModel", name := "height", desc := "()I" } : Jvm.MethodName) : Cond) ∈ wG := wGm 926 (by decide +kernel) (by decide +kernel)
theorem q927 : (Jvm.Cond.selects "ProcessMinerModel" ({ cls := "ProcessMinerModel", name := "height", desc := "()I" } : Jvm.MethodName) ({ cls := "ProcessMinerModel", name := "height", desc := "()I" } : Jvm.MethodName) : Cond) ∈ wG := wGm 927 (by decide +kernel) (by decide +kernel)
theorem q928 : (Jvm.Cond.code ({ cls := "ProcessMinerModel", name := "height", desc := "()I" } : Jvm.MethodName) prog_6_method_47_code (5 : Nat) (Option.some Jvm.ClassFile.FieldType.int) : Cond) ∈ wG := wGm 928 (by decide +kernel) (by decide +kernel)
theorem q929 : (Jvm.Cond.methodLink "ProcessMinerLaw" (165 : Nat) ({ cls := "ProcessMinerModel", name := "accepts", desc := "(I)Z" } : Jvm.MethodName) : Cond) ∈ wG := wGm 929 (by decide +kernel) (by decide +kernel)
theorem q930 : (Jvm.Cond.instanceMethod ({ cls := "ProcessMinerModel", name := "accepts", desc := "(I)Z" } : Jvm.MethodName) : Cond) ∈ wG := wGm 930 (by decide +kernel) (by decide +kernel)
theorem q931 : (Jvm.Cond.selects "ProcessMinerModel" ({ cls := "ProcessMinerModel", name := "accepts", desc := "(I)Z" } : Jvm.MethodName) ({ cls := "ProcessMinerModel", name := "accepts", desc := "(I)Z" } : Jvm.MethodName) : Cond) ∈ wG := wGm 931 (by decide +kernel) (by decide +kernel)
theorem q932 : (Jvm.Cond.code ({ cls := "ProcessMinerModel", name := "accepts", desc := "(I)Z" } : Jvm.MethodName) prog_6_method_57_code (2 : Nat) (Option.some Jvm.ClassFile.FieldType.boolean) : Cond) ∈ wG := wGm 932 (by decide +kernel) (by decide +kernel)
theorem q933 : (Jvm.Cond.methodLink "ProcessMinerModel" (192 : Nat) ({ cls := "ProcessMinerModel", name := "isTraceWord", desc := "(I)Z" } : Jvm.MethodName) : Cond) ∈ wG := wGm 933 (by decide +kernel) (by decide +kernel)
theorem q935 : (Jvm.Cond.instanceMethod ({ cls := "ProcessMinerModel", name := "isTraceWord", desc := "(I)Z" } : Jvm.MethodName) : Cond) ∈ wG := wGm 935 (by decide +kernel) (by decide +kernel)
theorem q936 : (Jvm.Cond.code ({ cls := "ProcessMinerModel", name := "isTraceWord", desc := "(I)Z" } : Jvm.MethodName) prog_6_method_56_code (3 : Nat) (Option.some Jvm.ClassFile.FieldType.boolean) : Cond) ∈ wG := wGm 936 (by decide +kernel) (by decide +kernel)
theorem q937 : (Jvm.Cond.methodLink "ProcessMinerModel" (180 : Nat) ({ cls := "ProcessMinerModel", name := "isWord", desc := "(II)Z" } : Jvm.MethodName) : Cond) ∈ wG := wGm 937 (by decide +kernel) (by decide +kernel)
theorem q939 : (Jvm.Cond.instanceMethod ({ cls := "ProcessMinerModel", name := "isWord", desc := "(II)Z" } : Jvm.MethodName) : Cond) ∈ wG := wGm 939 (by decide +kernel) (by decide +kernel)
theorem q940 : (Jvm.Cond.code ({ cls := "ProcessMinerModel", name := "isWord", desc := "(II)Z" } : Jvm.MethodName) prog_6_method_51_code (3 : Nat) (Option.some Jvm.ClassFile.FieldType.boolean) : Cond) ∈ wG := wGm 940 (by decide +kernel) (by decide +kernel)
theorem q941 : (Jvm.Cond.methodLink "ProcessMinerModel" (167 : Nat) ({ cls := "ProcessMinerModel", name := "placesOf", desc := "(II)I" } : Jvm.MethodName) : Cond) ∈ wG := wGm 941 (by decide +kernel) (by decide +kernel)
theorem q943 : (Jvm.Cond.instanceMethod ({ cls := "ProcessMinerModel", name := "placesOf", desc := "(II)I" } : Jvm.MethodName) : Cond) ∈ wG := wGm 943 (by decide +kernel) (by decide +kernel)
theorem q944 : (Jvm.Cond.code ({ cls := "ProcessMinerModel", name := "placesOf", desc := "(II)I" } : Jvm.MethodName) prog_6_method_48_code (5 : Nat) (Option.some Jvm.ClassFile.FieldType.int) : Cond) ∈ wG := wGm 944 (by decide +kernel) (by decide +kernel)
theorem q945 : (Jvm.Cond.methodLink "ProcessMinerModel" (170 : Nat) ({ cls := "ProcessMinerModel", name := "isOrder", desc := "(III)Z" } : Jvm.MethodName) : Cond) ∈ wG := wGm 945 (by decide +kernel) (by decide +kernel)
theorem q947 : (Jvm.Cond.instanceMethod ({ cls := "ProcessMinerModel", name := "isOrder", desc := "(III)Z" } : Jvm.MethodName) : Cond) ∈ wG := wGm 947 (by decide +kernel) (by decide +kernel)
theorem q948 : (Jvm.Cond.code ({ cls := "ProcessMinerModel", name := "isOrder", desc := "(III)Z" } : Jvm.MethodName) prog_6_method_53_code (7 : Nat) (Option.some Jvm.ClassFile.FieldType.boolean) : Cond) ∈ wG := wGm 948 (by decide +kernel) (by decide +kernel)
theorem q949 : (Jvm.Cond.methodLink "ProcessMinerModel" (183 : Nat) ({ cls := "ProcessMinerModel", name := "isCut", desc := "(II)Z" } : Jvm.MethodName) : Cond) ∈ wG := wGm 949 (by decide +kernel) (by decide +kernel)
theorem q950 : (Jvm.Cond.static ({ cls := "ProcessMinerModel", name := "isCut", desc := "(II)Z" } : Jvm.MethodName) : Cond) ∈ wG := wGm 950 (by decide +kernel) (by decide +kernel)
theorem q951 : (Jvm.Cond.code ({ cls := "ProcessMinerModel", name := "isCut", desc := "(II)Z" } : Jvm.MethodName) prog_6_method_50_code (2 : Nat) (Option.some Jvm.ClassFile.FieldType.boolean) : Cond) ∈ wG := wGm 951 (by decide +kernel) (by decide +kernel)
theorem q952 : (Jvm.Cond.methodLink "ProcessMinerModel" (186 : Nat) ({ cls := "ProcessMinerModel", name := "until", desc := "(II)I" } : Jvm.MethodName) : Cond) ∈ wG := wGm 952 (by decide +kernel) (by decide +kernel)
theorem q953 : (Jvm.Cond.static ({ cls := "ProcessMinerModel", name := "until", desc := "(II)I" } : Jvm.MethodName) : Cond) ∈ wG := wGm 953 (by decide +kernel) (by decide +kernel)
theorem q954 : (Jvm.Cond.code ({ cls := "ProcessMinerModel", name := "until", desc := "(II)I" } : Jvm.MethodName) prog_6_method_49_code (2 : Nat) (Option.some Jvm.ClassFile.FieldType.int) : Cond) ∈ wG := wGm 954 (by decide +kernel) (by decide +kernel)
theorem q955 : (Jvm.Cond.methodLink "ProcessMinerModel" (174 : Nat) ({ cls := "ProcessMinerModel", name := "isAgain", desc := "(II)Z" } : Jvm.MethodName) : Cond) ∈ wG := wGm 955 (by decide +kernel) (by decide +kernel)
theorem q957 : (Jvm.Cond.instanceMethod ({ cls := "ProcessMinerModel", name := "isAgain", desc := "(II)Z" } : Jvm.MethodName) : Cond) ∈ wG := wGm 957 (by decide +kernel) (by decide +kernel)
theorem q958 : (Jvm.Cond.code ({ cls := "ProcessMinerModel", name := "isAgain", desc := "(II)Z" } : Jvm.MethodName) prog_6_method_54_code (7 : Nat) (Option.some Jvm.ClassFile.FieldType.boolean) : Cond) ∈ wG := wGm 958 (by decide +kernel) (by decide +kernel)
theorem q959 : (Jvm.Cond.methodLink "ProcessMinerModel" (189 : Nat) ({ cls := "ProcessMinerModel", name := "goesOn", desc := "(III)Z" } : Jvm.MethodName) : Cond) ∈ wG := wGm 959 (by decide +kernel) (by decide +kernel)
theorem q961 : (Jvm.Cond.instanceMethod ({ cls := "ProcessMinerModel", name := "goesOn", desc := "(III)Z" } : Jvm.MethodName) : Cond) ∈ wG := wGm 961 (by decide +kernel) (by decide +kernel)
theorem q962 : (Jvm.Cond.code ({ cls := "ProcessMinerModel", name := "goesOn", desc := "(III)Z" } : Jvm.MethodName) prog_6_method_55_code (10 : Nat) (Option.some Jvm.ClassFile.FieldType.boolean) : Cond) ∈ wG := wGm 962 (by decide +kernel) (by decide +kernel)
theorem q963 : (Jvm.Cond.methodLink "ProcessMinerModel" (177 : Nat) ({ cls := "ProcessMinerModel", name := "areWords", desc := "(II)Z" } : Jvm.MethodName) : Cond) ∈ wG := wGm 963 (by decide +kernel) (by decide +kernel)
theorem q965 : (Jvm.Cond.instanceMethod ({ cls := "ProcessMinerModel", name := "areWords", desc := "(II)Z" } : Jvm.MethodName) : Cond) ∈ wG := wGm 965 (by decide +kernel) (by decide +kernel)
theorem q966 : (Jvm.Cond.code ({ cls := "ProcessMinerModel", name := "areWords", desc := "(II)Z" } : Jvm.MethodName) prog_6_method_52_code (8 : Nat) (Option.some Jvm.ClassFile.FieldType.boolean) : Cond) ∈ wG := wGm 966 (by decide +kernel) (by decide +kernel)
theorem q967 : (Jvm.Cond.methodLink "ProcessMinerLaw" (168 : Nat) ({ cls := "ProcessMinerModel", name := "acceptsBuffer", desc := "()Z" } : Jvm.MethodName) : Cond) ∈ wG := wGm 967 (by decide +kernel) (by decide +kernel)
theorem q968 : (Jvm.Cond.instanceMethod ({ cls := "ProcessMinerModel", name := "acceptsBuffer", desc := "()Z" } : Jvm.MethodName) : Cond) ∈ wG := wGm 968 (by decide +kernel) (by decide +kernel)
theorem q969 : (Jvm.Cond.selects "ProcessMinerModel" ({ cls := "ProcessMinerModel", name := "acceptsBuffer", desc := "()Z" } : Jvm.MethodName) ({ cls := "ProcessMinerModel", name := "acceptsBuffer", desc := "()Z" } : Jvm.MethodName) : Cond) ∈ wG := wGm 969 (by decide +kernel) (by decide +kernel)
theorem q970 : (Jvm.Cond.code ({ cls := "ProcessMinerModel", name := "acceptsBuffer", desc := "()Z" } : Jvm.MethodName) prog_6_method_58_code (2 : Nat) (Option.some Jvm.ClassFile.FieldType.boolean) : Cond) ∈ wG := wGm 970 (by decide +kernel) (by decide +kernel)
theorem q971 : (Jvm.Cond.methodLink "ProcessMinerLaw" (172 : Nat) ({ cls := "ProcessMinerModel", name := "fitness", desc := "()D" } : Jvm.MethodName) : Cond) ∈ wG := wGm 971 (by decide +kernel) (by decide +kernel)
theorem q972 : (Jvm.Cond.instanceMethod ({ cls := "ProcessMinerModel", name := "fitness", desc := "()D" } : Jvm.MethodName) : Cond) ∈ wG := wGm 972 (by decide +kernel) (by decide +kernel)
theorem q973 : (Jvm.Cond.selects "ProcessMinerModel" ({ cls := "ProcessMinerModel", name := "fitness", desc := "()D" } : Jvm.MethodName) ({ cls := "ProcessMinerModel", name := "fitness", desc := "()D" } : Jvm.MethodName) : Cond) ∈ wG := wGm 973 (by decide +kernel) (by decide +kernel)
theorem q974 : (Jvm.Cond.code ({ cls := "ProcessMinerModel", name := "fitness", desc := "()D" } : Jvm.MethodName) prog_6_method_59_code (3 : Nat) (Option.some Jvm.ClassFile.FieldType.double) : Cond) ∈ wG := wGm 974 (by decide +kernel) (by decide +kernel)
theorem q975 : (Jvm.Cond.methodLink "ProcessMinerLaw" (175 : Nat) ({ cls := "ProcessMinerModel", name := "words", desc := "(I)I" } : Jvm.MethodName) : Cond) ∈ wG := wGm 975 (by decide +kernel) (by decide +kernel)
theorem q976 : (Jvm.Cond.instanceMethod ({ cls := "ProcessMinerModel", name := "words", desc := "(I)I" } : Jvm.MethodName) : Cond) ∈ wG := wGm 976 (by decide +kernel) (by decide +kernel)
theorem q977 : (Jvm.Cond.selects "ProcessMinerModel" ({ cls := "ProcessMinerModel", name := "words", desc := "(I)I" } : Jvm.MethodName) ({ cls := "ProcessMinerModel", name := "words", desc := "(I)I" } : Jvm.MethodName) : Cond) ∈ wG := wGm 977 (by decide +kernel) (by decide +kernel)
theorem q978 : (Jvm.Cond.code ({ cls := "ProcessMinerModel", name := "words", desc := "(I)I" } : Jvm.MethodName) prog_6_method_60_code (5 : Nat) (Option.some Jvm.ClassFile.FieldType.int) : Cond) ∈ wG := wGm 978 (by decide +kernel) (by decide +kernel)
theorem q979 : (Jvm.Cond.methodLink "ProcessMinerLaw" (180 : Nat) ({ cls := "ProcessMinerModel", name := "digest", desc := "()J" } : Jvm.MethodName) : Cond) ∈ wG := wGm 979 (by decide +kernel) (by decide +kernel)
theorem q980 : (Jvm.Cond.instanceMethod ({ cls := "ProcessMinerModel", name := "digest", desc := "()J" } : Jvm.MethodName) : Cond) ∈ wG := wGm 980 (by decide +kernel) (by decide +kernel)
theorem q981 : (Jvm.Cond.selects "ProcessMinerModel" ({ cls := "ProcessMinerModel", name := "digest", desc := "()J" } : Jvm.MethodName) ({ cls := "ProcessMinerModel", name := "digest", desc := "()J" } : Jvm.MethodName) : Cond) ∈ wG := wGm 981 (by decide +kernel) (by decide +kernel)
theorem q982 : (Jvm.Cond.code ({ cls := "ProcessMinerModel", name := "digest", desc := "()J" } : Jvm.MethodName) prog_6_method_61_code (5 : Nat) (Option.some Jvm.ClassFile.FieldType.long) : Cond) ∈ wG := wGm 982 (by decide +kernel) (by decide +kernel)
theorem q983 : (Jvm.Cond.constantLong "ProcessMinerModel" (195 : Nat) (5177 : Int64) : Cond) ∈ wG := wGm 983 (by decide +kernel) (by decide +kernel)
theorem q984 : (Jvm.Cond.constantLong "ProcessMinerModel" (197 : Nat) (31 : Int64) : Cond) ∈ wG := wGm 984 (by decide +kernel) (by decide +kernel)
theorem q985 : (Jvm.Cond.arrayClass Jvm.ClassFile.FieldType.long : Cond) ∈ wG := wGm 985 (by decide +kernel) (by decide +kernel)
theorem q986 : (Jvm.Cond.arrayClass Jvm.ClassFile.FieldType.double : Cond) ∈ wG := wGm 986 (by decide +kernel) (by decide +kernel)
theorem q987 : (Jvm.Cond.sameMethod "java/lang/Throwable" "java/lang/Throwable" "fillInStackTrace" "(I)Ljava/lang/Throwable;" : Cond) ∈ wG := wGm 987 (by decide +kernel) (by decide +kernel)
end
section
/-! The abstract layer: heaps as functions from addresses to cells, one judgement J over them, contracts Fn -/
section BASE0
/-- an int of the machine by its number -/
def iI (z : Int) : Int32 := Int32.ofInt z
theorem iI_add (a b : Int) : iI a + iI b = iI (a + b) := (Int32.ofInt_add a b).symm
theorem iI_sub (a b : Int) : iI a - iI b = iI (a - b) := (Int32.ofInt_sub a b).symm
theorem iI_mul (a b : Int) : iI a * iI b = iI (a * b) := (Int32.ofInt_mul a b).symm
theorem iI_neg (a : Int) : - iI a = iI (-a) := (Int32.ofInt_neg a).symm
theorem iI_toInt {z : Int} (h1 : -2147483648 ≤ z) (h2 : z < 2147483648) : (iI z).toInt = z := by
  unfold iI
  rw [Int32.toInt_ofInt]
  exact Int.bmod_eq_of_le (by show -(((4294967296 : Nat) : Int) / 2) ≤ z; omega) (by show z < (((4294967296 : Nat) : Int) + 1) / 2; omega)
theorem iI_lt {a b : Int} (ha1 : -2147483648 ≤ a) (ha2 : a < 2147483648) (hb1 : -2147483648 ≤ b) (hb2 : b < 2147483648) : iI a < iI b ↔ a < b := by
  rw [Int32.lt_iff_toInt_lt, iI_toInt ha1 ha2, iI_toInt hb1 hb2]
theorem iI_le {a b : Int} (ha1 : -2147483648 ≤ a) (ha2 : a < 2147483648) (hb1 : -2147483648 ≤ b) (hb2 : b < 2147483648) : iI a ≤ iI b ↔ a ≤ b := by
  rw [Int32.le_iff_toInt_le, iI_toInt ha1 ha2, iI_toInt hb1 hb2]
theorem iI_eq {a b : Int} (ha1 : -2147483648 ≤ a) (ha2 : a < 2147483648) (hb1 : -2147483648 ≤ b) (hb2 : b < 2147483648) : iI a = iI b ↔ a = b := by
  refine ⟨fun h => ?_, fun h => by rw [h]⟩
  rw [← iI_toInt ha1 ha2, ← iI_toInt hb1 hb2, h]
theorem iI_nat (n : Nat) : iI (n : Int) = nI n := by
  unfold iI nI
  exact Int32.ofInt_eq_ofNat
theorem iI_0 : iI 0 = 0 := by decide +kernel
theorem iI_self (x : Int32) : iI x.toInt = x := by unfold iI; exact Int32.ofInt_toInt x
theorem iI_or (a b : Nat) : iI (a : Int) ||| iI (b : Int) = iI ((a ||| b : Nat) : Int) := by
  rw [iI_nat, iI_nat, iI_nat]
  apply Int32.toBitVec_inj.mp
  show BitVec.ofNat 32 a ||| BitVec.ofNat 32 b = BitVec.ofNat 32 (a ||| b)
  exact BitVec.ofNat_or.symm
theorem iI_and (a b : Nat) : iI (a : Int) &&& iI (b : Int) = iI ((a &&& b : Nat) : Int) := by
  rw [iI_nat, iI_nat, iI_nat]
  apply Int32.toBitVec_inj.mp
  show BitVec.ofNat 32 a &&& BitVec.ofNat 32 b = BitVec.ofNat 32 (a &&& b)
  exact BitVec.ofNat_and.symm
theorem iI_cl {n : Nat} (h : n < 2 ^ 31) : (iI (n : Int)).toNatClampNeg = n := by rw [iI_nat]; exact nI_clamp h
theorem iI_vp {n N : Nat} (h : n < N) (hN : N < 2 ^ 31) : vp_in (iI (n : Int)) N := by rw [iI_nat]; exact vp_in_nI h hN
/-- a new value at one place of a row -/
def upI (g : Nat → Int) (j : Nat) (z : Int) : Nat → Int := fun k => if k = j then z else g k
theorem upI_s {g : Nat → Int} {j : Nat} {z : Int} : upI g j z j = z := by simp [upI]
theorem upI_n {g : Nat → Int} {j k : Nat} {z : Int} (h : k ≠ j) : upI g j z k = g k := by simp [upI, h]
end BASE0
section BASE1
abbrev En : Type := va_G × (Nat → ClassId)
abbrev Ce : Type := (Nat × List Value) ⊕ (Nat × vp_A)
abbrev AH : Type := Nat → Option Ce
/-- an object: its class's place in vwCl, its fields -/
abbrev cO (ci : Nat) (fs : List Value) : Ce := .inl (ci, fs)
/-- a row of ints, of longs, of doubles, of references (kind 3: int[], kind 4: Log) -/
abbrev cA (n : Nat) (g : Nat → Int) : Ce := .inr (0, n, .inl (fun j => iI (g j)))
abbrev cJ (n : Nat) (f : Nat → Int64) : Ce := .inr (1, n, .inr (.inl f))
abbrev cD (n : Nat) (f : Nat → UInt64) : Ce := .inr (2, n, .inr (.inr (.inr (.inl f))))
abbrev cR (k n : Nat) (f : Nat → Option Nat) : Ce := .inr (k, n, .inr (.inr (.inr (.inr f))))
def toE (E : En) (x : Ce) : va_E := match x with
  | .inl o => .inr o
  | .inr q => .inl (E.2 q.1, q.2)
abbrev tyE (E : En) : List (ClassId × FieldType) := [(E.2 0, .int), (E.2 1, .long), (E.2 2, .double), (E.2 3, .array .int), (E.2 4, .object "ProcessMiner$Log")]
def Rp (E : En) (lo n : Nat) (M : AH) (H : Heap) : Prop := H.size = n ∧ lo ≤ n ∧ ∀ (a : Nat) (x : Ce), M a = some x → lo ≤ a ∧ a < n ∧ va_at E.1 vwCl (a, toE E x) H
/-- the words that aren't good ones: links of nest mates, arrays over a class, casts -/
def nwG : List Cond := [.methodLinkNest "ProcessMiner" 37 ⟨"ProcessMiner$Tree", "<init>", "()V"⟩ "ProcessMiner", .methodLinkNest "ProcessMiner" 55 ⟨"ProcessMiner$Log", "<init>", "()V"⟩ "ProcessMiner", .methodLinkNest "ProcessMiner$Log" 70 ⟨"ProcessMiner", "contains", "(II)Z"⟩ "ProcessMiner", .methodLinkNest "ProcessMiner$Matcher" 43 ⟨"ProcessMiner", "contains", "(II)Z"⟩ "ProcessMiner"]
def ncG : List (String × String) := [("java/lang/IndexOutOfBoundsException", "java/lang/IndexOutOfBoundsException"), ("java/lang/IllegalStateException", "java/lang/IllegalStateException"), ("java/lang/IllegalArgumentException", "java/lang/IllegalArgumentException"), ("[I", "java/lang/Cloneable")]
def ndG : List MethodName := [⟨"java/lang/RuntimeException", "<init>", "()V"⟩, ⟨"java/lang/RuntimeException", "<init>", "(Ljava/lang/String;)V"⟩, ⟨"java/lang/Exception", "<init>", "()V"⟩, ⟨"java/lang/Exception", "<init>", "(Ljava/lang/String;)V"⟩, ⟨"java/lang/Throwable", "<init>", "()V"⟩, ⟨"java/lang/Throwable", "<init>", "(Ljava/lang/String;)V"⟩]
def nsG : List (Nat × String) := [(177, "no such label"), (62, "the buffer is full"), (179, "the times are not 0 to 99"), (70, "the log is full"), (181, "no such trace"), (75, "there is no trace"), (79, "no such place"), (183, "nothing was mined since the last change"), (185, "no such node"), (138, "no such child"), (161, "the length is not 0 to 3")]
/-- exceptions that a row of a table doesn't take -/
def nnG : List (String × String) := [("java/lang/IllegalStateException", "java/lang/IndexOutOfBoundsException"), ("java/lang/IllegalArgumentException", "java/lang/IndexOutOfBoundsException"), ("java/lang/IllegalStateException", "java/lang/IllegalArgumentException"), ("java/lang/IndexOutOfBoundsException", "java/lang/IllegalStateException"), ("java/lang/IllegalArgumentException", "java/lang/IllegalStateException")]
/-- what is known of the machine's tables, beside wG -/
def KW (E : En) (lo : Nat) (U : State) : Prop := va_K E.1 vwCl (tyE E) U ∧ (∀ (a : String) (i : Nat) (x : MethodName) (h : String), Cond.methodLinkNest a i x h ∈ nwG → va_Nw (.methodLinkNest a i x h) U) ∧ (∀ q ∈ ncG, va_Nw (.castable q.1 q.2) U) ∧ (∀ q ∈ ndG, va_Nw (.declares q) U) ∧ (∀ q ∈ nsG, ∃ sa, vk_R "ProcessMiner" q.1 q.2 sa U) ∧ (∀ q ∈ nnG, va_Nc q.1 q.2 U) ∧ va_AO "ProcessMiner$Log" U ∧ (Cond.arrayOver (.array .int)).before #[] U = true ∧ vx_Zq Bundle.tN "UNASSIGNED_STACK" Bundle.steD (fun q => lo ≤ q) U U.heap ∧ vx_Zq Bundle.tN "SUPPRESSED_SENTINEL" Bundle.listD (fun q => lo ≤ q) U U.heap
end BASE1
section BASE2
theorem KW.to {E : En} {lo : Nat} {s U : State} {locs : List Loc} (hK : KW E lo s) (hW : s.WarmedH U.vm) (hS : va_S (fun q => lo ≤ q) s.heap U.heap locs) : KW E lo U := by
  obtain ⟨h1, h2, h3, h4, h5, h6, h7, h8, h9, h10⟩ := hK
  have hal := hW.alike
  refine ⟨va_K.moved hal h1, fun a i x h hm => va_Nw.warmM hW (h2 a i x h hm), fun q hq => va_Nw.warmC hW (h3 q hq), fun q hq => va_Nw.warmD hW (h4 q hq), fun q hq => ?_, fun q hq => va_Nc.moved hal (h6 q hq), va_AO.moved hal h7, ?_, ?_, ?_⟩
  · obtain ⟨sa, h⟩ := h5 q hq
    exact ⟨sa, vk_R.warm hW h⟩
  · have h := Cond.arrayOver_setVmC (args := #[]) hal (.array .int)
    rw [h8] at h
    first | exact h | simpa [Cond.before, Cond.holds, Cond.value] using h
  · exact vx_Zq.moved hal (vx_Zq.kept h9 hS.2.1)
  · exact vx_Zq.moved hal (vx_Zq.kept h10 hS.2.1)
theorem KW.blind {E : En} {lo : Nat} {U : State} {g : JFrame} {mk : MethodId} {a : Array Value} (h : KW E lo U) : KW E lo (U.calling g mk a) := by
  obtain ⟨h1, h2, h3, h4, h5, h6, h7, h8, h9, h10⟩ := h
  have hal : U.vm.Alike (U.calling g mk a).vm := Vm.Alike.refl U.vm
  refine ⟨va_K.moved (u := U) (U := U.calling g mk a) hal h1, fun a i x h hm => va_Nw.same rfl rfl (h2 a i x h hm), fun q hq => va_Nw.same rfl rfl (h3 q hq), fun q hq => va_Nw.same rfl rfl (h4 q hq), fun q hq => ?_, fun q hq => va_Nc.moved hal (h6 q hq), va_AO.moved hal h7, ?_, ?_, ?_⟩
  · obtain ⟨sa, h⟩ := h5 q hq
    exact ⟨sa, vk_R.same rfl h⟩
  · first | exact h8 | simpa [Cond.before, Cond.holds, Cond.value] using h8
  · exact vx_Zq.moved (u := U) (U := U.calling g mk a) hal h9
  · exact vx_Zq.moved (u := U) (U := U.calling g mk a) hal h10
/-- locals by their places; none: nothing is known of the place -/
def asl : Nat → List (Option Value) → List (Nat × Value)
  | _, [] => []
  | i, none :: t => asl (i + 1) t
  | i, some v :: t => (i, v) :: asl (i + 1) t
theorem asl_in : ∀ (L : List (Option Value)) (b i : Nat) (v : Value), L[i]? = some (some v) → (b + i, v) ∈ asl b L
  | [], _, _, _, h => by simp at h
  | x :: t, b, 0, v, h => by
    simp only [List.getElem?_cons_zero, Option.some.injEq] at h
    subst h
    simp [asl]
  | x :: t, b, i + 1, v, h => by
    rw [List.getElem?_cons_succ] at h
    have := asl_in t (b + 1) i v h
    have e : b + 1 + i = b + (i + 1) := by omega
    rw [e] at this
    cases x with
    | none => simpa [asl] using this
    | some w => simp [asl, this]
theorem asl_of : ∀ (L : List (Option Value)) (b : Nat) (q : Nat × Value), q ∈ asl b L → ∃ i, q.1 = b + i ∧ L[i]? = some (some q.2)
  | [], _, _, h => by simp [asl] at h
  | none :: t, b, q, h => by
    obtain ⟨i, h1, h2⟩ := asl_of t (b + 1) q (by simpa [asl] using h)
    exact ⟨i + 1, by omega, by simpa using h2⟩
  | some v :: t, b, q, h => by
    simp only [asl, List.mem_cons] at h
    rcases h with h | h
    · subst h
      exact ⟨0, by omega, by simp⟩
    · obtain ⟨i, h1, h2⟩ := asl_of t (b + 1) q h
      exact ⟨i + 1, by omega, by simpa using h2⟩
def LH (ls : Array Slot) (L : List (Option Value)) : Prop := lv_has ls L.length (asl 0 L)
theorem LH.at {ls : Array Slot} {L : List (Option Value)} (h : LH ls L) {i : Nat} {v : Value} (hi : L[i]? = some (some v)) : ls[i]? = some (.val v) := by
  have := h.2.2 _ (asl_in L 0 i v hi)
  simpa using this
def ok1 (L : List (Option Value)) (i : Nat) : Bool := match i with
  | 0 => true
  | j + 1 => match L[j]? with
    | some (some v) => v.category != 2
    | _ => true
theorem ok1_ne {L : List (Option Value)} {i j : Nat} {v : Value} (h : ok1 L i = true) (hj : j + 1 = i) (hv : L[j]? = some (some v)) : v.category ≠ 2 := by
  subst hj
  simp only [ok1, hv] at h
  simpa using h
theorem LH.st1 {ls' : Array Slot} {L : List (Option Value)} {i : Nat} {v : Value} (hok : ok1 L i = true) (h : lv_has ls' L.length ((i, v) :: (asl 0 L).filter (fun q => !(q.1 == i) && !(q.1 + 1 == i && q.2.category == 2)))) : LH ls' (L.set i (some v)) := by
  refine ⟨by rw [List.length_set]; exact h.1, h.2.1, fun q hq => ?_⟩
  obtain ⟨j, h1, h2⟩ := asl_of _ 0 q hq
  rw [Nat.zero_add] at h1
  by_cases hj : j = i
  · subst hj
    have hlt : j < L.length := by
      have := (List.getElem?_eq_some_iff.mp h2).1
      simpa using this
    rw [List.getElem?_set_self (by exact hlt)] at h2
    have : q = (j, v) := by
      obtain ⟨q1, q2⟩ := q
      simp only [Option.some.injEq] at h2
      simp only at h1
      subst h1; subst h2; rfl
    rw [this]
    exact h.2.2 _ List.mem_cons_self
  · rw [List.getElem?_set_ne (fun e => hj e.symm)] at h2
    refine h.2.2 q (List.mem_cons_of_mem _ (List.mem_filter.mpr ⟨?_, ?_⟩))
    · have := asl_in L 0 j q.2 h2
      rw [Nat.zero_add, ← h1] at this
      exact this
    · have h3 : ¬ (q.1 + 1 = i ∧ q.2.category = 2) := fun ⟨e1, e2⟩ => ok1_ne hok (by omega) h2 e2
      simp only [Bool.and_eq_true, Bool.not_eq_true', beq_eq_false_iff_ne, ne_eq, Bool.and_eq_false_iff]
      refine ⟨by omega, ?_⟩
      by_cases e : q.1 + 1 = i
      · exact Or.inr (by simpa using fun e2 => h3 ⟨e, e2⟩)
      · exact Or.inl (by simpa using e)
theorem LH.st2 {ls' : Array Slot} {L : List (Option Value)} {i : Nat} {v : Value} (hok : ok1 L i = true) (h : lv_has ls' L.length ((i, v) :: (asl 0 L).filter (fun q => !(q.1 == i) && (!(q.1 == i + 1) && !(q.1 + 1 == i && q.2.category == 2))))) : LH ls' ((L.set i (some v)).set (i + 1) none) := by
  refine ⟨by rw [List.length_set, List.length_set]; exact h.1, h.2.1, fun q hq => ?_⟩
  obtain ⟨j, h1, h2⟩ := asl_of _ 0 q hq
  rw [Nat.zero_add] at h1
  have hlen : j < L.length := by
    have := (List.getElem?_eq_some_iff.mp h2).1
    simpa using this
  by_cases hj2 : j = i + 1
  · subst hj2
    rw [List.getElem?_set_self (by simpa using hlen)] at h2
    cases h2
  · rw [List.getElem?_set_ne (fun e => hj2 e.symm)] at h2
    by_cases hj : j = i
    · subst hj
      rw [List.getElem?_set_self hlen] at h2
      have : q = (j, v) := by
        obtain ⟨q1, q2⟩ := q
        simp only [Option.some.injEq] at h2
        simp only at h1
        subst h1; subst h2; rfl
      rw [this]
      exact h.2.2 _ List.mem_cons_self
    · rw [List.getElem?_set_ne (fun e => hj e.symm)] at h2
      refine h.2.2 q (List.mem_cons_of_mem _ (List.mem_filter.mpr ⟨?_, ?_⟩))
      · have := asl_in L 0 j q.2 h2
        rw [Nat.zero_add, ← h1] at this
        exact this
      · have h3 : ¬ (q.1 + 1 = i ∧ q.2.category = 2) := fun ⟨e1, e2⟩ => ok1_ne hok (by omega) h2 e2
        simp only [Bool.and_eq_true, Bool.not_eq_true', beq_eq_false_iff_ne, ne_eq, Bool.and_eq_false_iff]
        refine ⟨by omega, by omega, ?_⟩
        by_cases e : q.1 + 1 = i
        · exact Or.inr (by simpa using fun e2 => h3 ⟨e, e2⟩)
        · exact Or.inl (by simpa using e)
end BASE2
end
section
section BASE3
abbrev GT : Type := Program × Launch × Env × Room × State × MethodId × Array Value × List Frame × Method × Code × (State → Prop) × En × Nat
abbrev gp (g : GT) := g.1
abbrev gl (g : GT) := g.2.1
abbrev ge (g : GT) := g.2.2.1
abbrev gR (g : GT) := g.2.2.2.1
abbrev gs (g : GT) := g.2.2.2.2.1
abbrev gm (g : GT) := g.2.2.2.2.2.1
abbrev ga (g : GT) := g.2.2.2.2.2.2.1
abbrev gb (g : GT) := g.2.2.2.2.2.2.2.1
abbrev gM (g : GT) := g.2.2.2.2.2.2.2.2.1
abbrev gc (g : GT) := g.2.2.2.2.2.2.2.2.2.1
abbrev gQ (g : GT) := g.2.2.2.2.2.2.2.2.2.2.1
abbrev gE (g : GT) := g.2.2.2.2.2.2.2.2.2.2.2.1
abbrev glo (g : GT) := g.2.2.2.2.2.2.2.2.2.2.2.2
/-- the judgement: at pc, over any heap that holds M -/
def J (g : GT) (k z n : Nat) (M : AH) (L : List (Option Value)) (pc : Nat) (st : List Value) : Prop :=
  ∀ (H : Heap) (locs : List Loc) (ls : Array Slot), Rp (gE g) (glo g) n M H → va_S (fun q => glo g ≤ q) (gs g).heap H locs → LH ls L → W (gp g) (gl g) (ge g) (gR g) (gs g) (gm g) (ga g) (gb g) (gM g) (gc g) H locs k z (gQ g) (F0 (gm g) pc ls st)
/-- what stands fast in a method's body -/
def Cx (g : GT) (own : String) (cc : ByteArray) (nL d mc ms : Nat) : Prop :=
  (gp g).tables.exec = Jvm.exec ∧ (gc g).code = cc ∧ (gc g).maxLocals = nL ∧ (gs g).vm.findClass own = some (gm g).cls ∧ (∀ w ∈ wG, w.before (ga g) (gs g) = true) ∧ KW (gE g) (glo g) (gs g) ∧ (gM g).locks = false ∧ d ≤ (gR g).frames ∧ 40 * d ≤ (gR g).locals ∧ mc ≤ (gR g).cells ∧ ms ≤ (gR g).slots ∧ (gl g).stackTraces = false ∧ glo g ≤ (gs g).heap.size
variable {g : GT} {ow : String} {cc : ByteArray} {nL d mc ms k z n pc : Nat} {M : AH} {L : List (Option Value)} {st : List Value}
theorem Cx.exec (G : Cx g ow cc nL d mc ms) : (gp g).tables.exec = Jvm.exec := G.1
theorem Cx.bytes (G : Cx g ow cc nL d mc ms) : (gc g).code = cc := G.2.1
theorem Cx.maxl (G : Cx g ow cc nL d mc ms) : (gc g).maxLocals = nL := G.2.2.1
theorem Cx.own (G : Cx g ow cc nL d mc ms) : (gs g).vm.findClass ow = some (gm g).cls := G.2.2.2.1
theorem Cx.words (G : Cx g ow cc nL d mc ms) : ∀ w ∈ wG, w.before (ga g) (gs g) = true := G.2.2.2.2.1
theorem Cx.kw (G : Cx g ow cc nL d mc ms) : KW (gE g) (glo g) (gs g) := G.2.2.2.2.2.1
theorem Cx.locks (G : Cx g ow cc nL d mc ms) : (gM g).locks = false := G.2.2.2.2.2.2.1
theorem Cx.frames (G : Cx g ow cc nL d mc ms) : d ≤ (gR g).frames := G.2.2.2.2.2.2.2.1
theorem Cx.locals (G : Cx g ow cc nL d mc ms) : 40 * d ≤ (gR g).locals := G.2.2.2.2.2.2.2.2.1
theorem Cx.cells (G : Cx g ow cc nL d mc ms) : mc ≤ (gR g).cells := G.2.2.2.2.2.2.2.2.2.1
theorem Cx.slots (G : Cx g ow cc nL d mc ms) : ms ≤ (gR g).slots := G.2.2.2.2.2.2.2.2.2.2.1
theorem Cx.notr (G : Cx g ow cc nL d mc ms) : (gl g).stackTraces = false := G.2.2.2.2.2.2.2.2.2.2.2.1
theorem Cx.lo (G : Cx g ow cc nL d mc ms) : glo g ≤ (gs g).heap.size := G.2.2.2.2.2.2.2.2.2.2.2.2
theorem J.stk {st' : List Value} (e : st = st') (kk : J g k z n M L pc st') : J g k z n M L pc st := e ▸ kk
theorem J.top {a b : Int} (e : a = b) (kk : J g k z n M L pc (.int (iI b) :: st)) : J g k z n M L pc (.int (iI a) :: st) := e ▸ kk
theorem J.topv {a b : Int32} (e : a = b) (kk : J g k z n M L pc (.int b :: st)) : J g k z n M L pc (.int a :: st) := e ▸ kk
theorem J.loc {L' : List (Option Value)} (e : L = L') (kk : J g k z n M L' pc st) : J g k z n M L pc st := e ▸ kk
theorem J.hp {M' : AH} (e : M = M') (kk : J g k z n M' L pc st) : J g k z n M L pc st := e ▸ kk
/-- fewer locals are known -/
theorem J.sub {L' : List (Option Value)} (hlen : L'.length = L.length) (h : ∀ (i : Nat) (v : Value), L'[i]? = some (some v) → L[i]? = some (some v)) (kk : J g k z n M L' pc st) : J g k z n M L pc st := by
  intro H locs ls hR hS hl
  refine kk H locs ls hR hS ⟨by rw [hlen]; exact hl.1, hl.2.1, fun q hq => ?_⟩
  obtain ⟨i, h1, h2⟩ := asl_of _ 0 q hq
  have := hl.at (h i q.2 h2)
  rw [h1, Nat.zero_add]; exact this
/-- more room is asked -/
theorem J.wid {k' z' : Nat} (h1 : k ≤ k') (h2 : z ≤ z') (kk : J g k' z' n M L pc st) : J g k z n M L pc st := by
  intro H locs ls hR hS hl
  exact W.widen h1 h2 (kk H locs ls hR hS hl)
/-- less of the heap is known -/
theorem J.less {M' : AH} (h : ∀ a x, M' a = some x → M a = some x) (kk : J g k z n M' L pc st) : J g k z n M L pc st := by
  intro H locs ls hR hS hl
  exact kk H locs ls ⟨hR.1, hR.2.1, fun a x hx => hR.2.2 a x (h a x hx)⟩ hS hl
/-- the address of a known cell -/
theorem J.lt {a : Nat} {x : Ce} (hM : M a = some x) (kk : a < n → J g k z n M L pc st) : J g k z n M L pc st := by
  intro H locs ls hR hS hl
  exact kk (hR.2.2 a x hM).2.1 H locs ls hR hS hl

theorem J.iload_n (G : Cx g ow cc nL d mc ms) {i : Fin 4} {x : Int32} (hd : decode cc pc = .ok (.iload_n i, 1)) (h : L[(i : Nat)]? = some (some (.int x))) (kk : J g k z n M L (pc + 1) (.int x :: st)) : J g k z n M L pc st := by
  intro H locs ls hR hS hl
  exact lv_iload_n G.exec G.bytes hd rfl (hl.at h) (kk H locs ls hR hS hl)
theorem J.iload (G : Cx g ow cc nL d mc ms) {i : Nat} {x : Int32} (hd : decode cc pc = .ok (.iload i, 2)) (h : L[i]? = some (some (.int x))) (kk : J g k z n M L (pc + 2) (.int x :: st)) : J g k z n M L pc st := by
  intro H locs ls hR hS hl
  exact lv_iload G.exec G.bytes hd (hl.at h) (kk H locs ls hR hS hl)
theorem J.aload_n (G : Cx g ow cc nL d mc ms) {i : Fin 4} {x : Nat} (hd : decode cc pc = .ok (.aload_n i, 1)) (h : L[(i : Nat)]? = some (some (.ref x))) (kk : J g k z n M L (pc + 1) (.ref x :: st)) : J g k z n M L pc st := by
  intro H locs ls hR hS hl
  exact lv_aload_n G.exec G.bytes hd rfl (hl.at h) (kk H locs ls hR hS hl)
theorem J.aload (G : Cx g ow cc nL d mc ms) {i : Nat} {x : Nat} (hd : decode cc pc = .ok (.aload i, 2)) (h : L[i]? = some (some (.ref x))) (kk : J g k z n M L (pc + 2) (.ref x :: st)) : J g k z n M L pc st := by
  intro H locs ls hR hS hl
  exact lv_aload G.exec G.bytes hd (hl.at h) (kk H locs ls hR hS hl)
theorem J.lload_n (G : Cx g ow cc nL d mc ms) {i : Fin 4} {x : Int64} (hd : decode cc pc = .ok (.lload_n i, 1)) (h : L[(i : Nat)]? = some (some (.long x))) (kk : J g k z n M L (pc + 1) (.long x :: st)) : J g k z n M L pc st := by
  intro H locs ls hR hS hl
  exact lv_lload_n G.exec G.bytes hd rfl (hl.at h) (kk H locs ls hR hS hl)
theorem J.lload (G : Cx g ow cc nL d mc ms) {i : Nat} {x : Int64} (hd : decode cc pc = .ok (.lload i, 2)) (h : L[i]? = some (some (.long x))) (kk : J g k z n M L (pc + 2) (.long x :: st)) : J g k z n M L pc st := by
  intro H locs ls hR hS hl
  exact lv_lload G.exec G.bytes hd (hl.at h) (kk H locs ls hR hS hl)
theorem J.dload_n (G : Cx g ow cc nL d mc ms) {i : Fin 4} {x : UInt64} (hd : decode cc pc = .ok (.dload_n i, 1)) (h : L[(i : Nat)]? = some (some (.double x))) (kk : J g k z n M L (pc + 1) (.double x :: st)) : J g k z n M L pc st := by
  intro H locs ls hR hS hl
  exact lv_dload_n G.exec G.bytes hd rfl (hl.at h) (kk H locs ls hR hS hl)
theorem J.dload (G : Cx g ow cc nL d mc ms) {i : Nat} {x : UInt64} (hd : decode cc pc = .ok (.dload i, 2)) (h : L[i]? = some (some (.double x))) (kk : J g k z n M L (pc + 2) (.double x :: st)) : J g k z n M L pc st := by
  intro H locs ls hR hS hl
  exact lv_dload G.exec G.bytes hd (hl.at h) (kk H locs ls hR hS hl)
theorem J.istore_n (G : Cx g ow cc nL d mc ms) {i : Fin 4} {x : Int32} {L' : List (Option Value)} (hd : decode cc pc = .ok (.istore_n i, 1)) (hok : ok1 L i = true) (hi : (i : Nat) < L.length) (hL : L.set i (some (.int x)) = L') (kk : J g k z n M L' (pc + 1) st) : J g k z n M L pc (.int x :: st) := by
  intro H locs ls hR hS hl
  exact lv_istore_n G.exec G.bytes hd rfl hl hi rfl (fun ls' h' => kk H locs ls' hR hS (hL ▸ LH.st1 hok h'))
theorem J.istore (G : Cx g ow cc nL d mc ms) {i : Nat} {x : Int32} {L' : List (Option Value)} (hd : decode cc pc = .ok (.istore i, 2)) (hok : ok1 L i = true) (hi : i < L.length) (hL : L.set i (some (.int x)) = L') (kk : J g k z n M L' (pc + 2) st) : J g k z n M L pc (.int x :: st) := by
  intro H locs ls hR hS hl
  exact lv_istore G.exec G.bytes hd hl hi rfl (fun ls' h' => kk H locs ls' hR hS (hL ▸ LH.st1 hok h'))
theorem J.astore_n (G : Cx g ow cc nL d mc ms) {i : Fin 4} {x : Nat} {L' : List (Option Value)} (hd : decode cc pc = .ok (.astore_n i, 1)) (hok : ok1 L i = true) (hi : (i : Nat) < L.length) (hL : L.set i (some (.ref x)) = L') (kk : J g k z n M L' (pc + 1) st) : J g k z n M L pc (.ref x :: st) := by
  intro H locs ls hR hS hl
  exact lv_astore_n G.exec G.bytes hd rfl hl hi rfl (fun ls' h' => kk H locs ls' hR hS (hL ▸ LH.st1 hok h'))
theorem J.astore (G : Cx g ow cc nL d mc ms) {i : Nat} {x : Nat} {L' : List (Option Value)} (hd : decode cc pc = .ok (.astore i, 2)) (hok : ok1 L i = true) (hi : i < L.length) (hL : L.set i (some (.ref x)) = L') (kk : J g k z n M L' (pc + 2) st) : J g k z n M L pc (.ref x :: st) := by
  intro H locs ls hR hS hl
  exact lv_astore G.exec G.bytes hd hl hi rfl (fun ls' h' => kk H locs ls' hR hS (hL ▸ LH.st1 hok h'))
theorem J.lstore_n (G : Cx g ow cc nL d mc ms) {i : Fin 4} {x : Int64} {L' : List (Option Value)} (hd : decode cc pc = .ok (.lstore_n i, 1)) (hok : ok1 L i = true) (hi : (i : Nat) + 1 < L.length) (hL : (L.set i (some (.long x))).set ((i : Nat) + 1) none = L') (kk : J g k z n M L' (pc + 1) st) : J g k z n M L pc (.long x :: st) := by
  intro H locs ls hR hS hl
  exact lv_lstore_n G.exec G.bytes hd rfl hl hi rfl (fun ls' h' => kk H locs ls' hR hS (hL ▸ LH.st2 hok h'))
theorem J.lstore (G : Cx g ow cc nL d mc ms) {i : Nat} {x : Int64} {L' : List (Option Value)} (hd : decode cc pc = .ok (.lstore i, 2)) (hok : ok1 L i = true) (hi : i + 1 < L.length) (hL : (L.set i (some (.long x))).set (i + 1) none = L') (kk : J g k z n M L' (pc + 2) st) : J g k z n M L pc (.long x :: st) := by
  intro H locs ls hR hS hl
  exact lv_lstore G.exec G.bytes hd hl hi rfl (fun ls' h' => kk H locs ls' hR hS (hL ▸ LH.st2 hok h'))
theorem J.dstore_n (G : Cx g ow cc nL d mc ms) {i : Fin 4} {x : UInt64} {L' : List (Option Value)} (hd : decode cc pc = .ok (.dstore_n i, 1)) (hok : ok1 L i = true) (hi : (i : Nat) + 1 < L.length) (hL : (L.set i (some (.double x))).set ((i : Nat) + 1) none = L') (kk : J g k z n M L' (pc + 1) st) : J g k z n M L pc (.double x :: st) := by
  intro H locs ls hR hS hl
  exact lv_dstore_n G.exec G.bytes hd rfl hl hi rfl (fun ls' h' => kk H locs ls' hR hS (hL ▸ LH.st2 hok h'))
theorem J.dstore (G : Cx g ow cc nL d mc ms) {i : Nat} {x : UInt64} {L' : List (Option Value)} (hd : decode cc pc = .ok (.dstore i, 2)) (hok : ok1 L i = true) (hi : i + 1 < L.length) (hL : (L.set i (some (.double x))).set (i + 1) none = L') (kk : J g k z n M L' (pc + 2) st) : J g k z n M L pc (.double x :: st) := by
  intro H locs ls hR hS hl
  exact lv_dstore G.exec G.bytes hd hl hi rfl (fun ls' h' => kk H locs ls' hR hS (hL ▸ LH.st2 hok h'))
theorem J.iinc (G : Cx g ow cc nL d mc ms) {i : Nat} {a b : Int} {L' : List (Option Value)} (hd : decode cc pc = .ok (.iinc i b, 3)) (h : L[i]? = some (some (.int (iI a)))) (hok : ok1 L i = true) (hL : L.set i (some (.int (iI (a + b)))) = L') (kk : J g k z n M L' (pc + 3) st) : J g k z n M L pc st := by
  intro H locs ls hR hS hl
  obtain ⟨j, hj⟩ := List.getElem?_of_mem (asl_in L 0 i _ h)
  rw [Nat.zero_add] at hj
  exact lv_iinc G.exec G.bytes hd hl hj (iI_add a b) (List.getElem?_eq_some_iff.mp h).1 rfl (fun ls' h' => kk H locs ls' hR hS (hL ▸ LH.st1 hok h'))
theorem J.iconst (G : Cx g ow cc nL d mc ms) {b : Int} (hd : decode cc pc = .ok (.iconst b, 1)) (kk : J g k z n M L (pc + 1) (.int (iI b) :: st)) : J g k z n M L pc (st) := by
  intro H locs ls hR hS hl
  refine lv_iconst G.exec G.bytes hd rfl ?_
  exact kk H locs ls hR hS hl
theorem J.bipush (G : Cx g ow cc nL d mc ms) {b : Int} (hd : decode cc pc = .ok (.bipush b, 2)) (hv : (Int8.ofInt b).toInt32 = iI b) (kk : J g k z n M L (pc + 2) (.int (iI b) :: st)) : J g k z n M L pc (st) := by
  intro H locs ls hR hS hl
  refine lv_bipush G.exec G.bytes hd hv ?_
  exact kk H locs ls hR hS hl
theorem J.sipush (G : Cx g ow cc nL d mc ms) {b : Int} (hd : decode cc pc = .ok (.sipush b, 3)) (hv : (Int16.ofInt b).toInt32 = iI b) (kk : J g k z n M L (pc + 3) (.int (iI b) :: st)) : J g k z n M L pc (st) := by
  intro H locs ls hR hS hl
  refine lv_sipush G.exec G.bytes hd hv ?_
  exact kk H locs ls hR hS hl
theorem J.iadd (G : Cx g ow cc nL d mc ms) {a b : Int} (hd : decode cc pc = .ok (.iadd, 1)) (kk : J g k z n M L (pc + 1) (.int (iI (a + b)) :: st)) : J g k z n M L pc (.int (iI b) :: .int (iI a) :: st) := by
  intro H locs ls hR hS hl
  refine lv_iadd G.exec G.bytes hd ?_
  rw [iI_add]; exact kk H locs ls hR hS hl
theorem J.isub (G : Cx g ow cc nL d mc ms) {a b : Int} (hd : decode cc pc = .ok (.isub, 1)) (kk : J g k z n M L (pc + 1) (.int (iI (a - b)) :: st)) : J g k z n M L pc (.int (iI b) :: .int (iI a) :: st) := by
  intro H locs ls hR hS hl
  refine lv_isub G.exec G.bytes hd ?_
  rw [iI_sub]; exact kk H locs ls hR hS hl
theorem J.imul (G : Cx g ow cc nL d mc ms) {a b : Int} (hd : decode cc pc = .ok (.imul, 1)) (kk : J g k z n M L (pc + 1) (.int (iI (a * b)) :: st)) : J g k z n M L pc (.int (iI b) :: .int (iI a) :: st) := by
  intro H locs ls hR hS hl
  refine lv_imul G.exec G.bytes hd ?_
  rw [iI_mul]; exact kk H locs ls hR hS hl
theorem J.ineg (G : Cx g ow cc nL d mc ms) {a : Int} (hd : decode cc pc = .ok (.ineg, 1)) (kk : J g k z n M L (pc + 1) (.int (iI (-a)) :: st)) : J g k z n M L pc (.int (iI a) :: st) := by
  intro H locs ls hR hS hl
  refine lv_ineg G.exec G.bytes hd ?_
  rw [iI_neg]; exact kk H locs ls hR hS hl
theorem J.ior (G : Cx g ow cc nL d mc ms) {a b : Nat} (hd : decode cc pc = .ok (.ior, 1)) (kk : J g k z n M L (pc + 1) (.int (iI ((a ||| b : Nat) : Int)) :: st)) : J g k z n M L pc (.int (iI (b : Int)) :: .int (iI (a : Int)) :: st) := by
  intro H locs ls hR hS hl
  refine lv_ior G.exec G.bytes hd ?_
  rw [iI_or]; exact kk H locs ls hR hS hl
theorem J.iand (G : Cx g ow cc nL d mc ms) {a b : Nat} (hd : decode cc pc = .ok (.iand, 1)) (kk : J g k z n M L (pc + 1) (.int (iI ((a &&& b : Nat) : Int)) :: st)) : J g k z n M L pc (.int (iI (b : Int)) :: .int (iI (a : Int)) :: st) := by
  intro H locs ls hR hS hl
  refine lv_iand G.exec G.bytes hd ?_
  rw [iI_and]; exact kk H locs ls hR hS hl
theorem J.iadd_r (G : Cx g ow cc nL d mc ms) {x y : Int32} (hd : decode cc pc = .ok (.iadd, 1)) (kk : J g k z n M L (pc + 1) (.int (x + y) :: st)) : J g k z n M L pc (.int y :: .int x :: st) := by
  intro H locs ls hR hS hl
  refine lv_iadd G.exec G.bytes hd ?_
  exact kk H locs ls hR hS hl
theorem J.isub_r (G : Cx g ow cc nL d mc ms) {x y : Int32} (hd : decode cc pc = .ok (.isub, 1)) (kk : J g k z n M L (pc + 1) (.int (x - y) :: st)) : J g k z n M L pc (.int y :: .int x :: st) := by
  intro H locs ls hR hS hl
  refine lv_isub G.exec G.bytes hd ?_
  exact kk H locs ls hR hS hl
theorem J.imul_r (G : Cx g ow cc nL d mc ms) {x y : Int32} (hd : decode cc pc = .ok (.imul, 1)) (kk : J g k z n M L (pc + 1) (.int (x * y) :: st)) : J g k z n M L pc (.int y :: .int x :: st) := by
  intro H locs ls hR hS hl
  refine lv_imul G.exec G.bytes hd ?_
  exact kk H locs ls hR hS hl
theorem J.ior_r (G : Cx g ow cc nL d mc ms) {x y : Int32} (hd : decode cc pc = .ok (.ior, 1)) (kk : J g k z n M L (pc + 1) (.int (x ||| y) :: st)) : J g k z n M L pc (.int y :: .int x :: st) := by
  intro H locs ls hR hS hl
  refine lv_ior G.exec G.bytes hd ?_
  exact kk H locs ls hR hS hl
theorem J.iand_r (G : Cx g ow cc nL d mc ms) {x y : Int32} (hd : decode cc pc = .ok (.iand, 1)) (kk : J g k z n M L (pc + 1) (.int (x &&& y) :: st)) : J g k z n M L pc (.int y :: .int x :: st) := by
  intro H locs ls hR hS hl
  refine lv_iand G.exec G.bytes hd ?_
  exact kk H locs ls hR hS hl
theorem J.ixor_r (G : Cx g ow cc nL d mc ms) {x y : Int32} (hd : decode cc pc = .ok (.ixor, 1)) (kk : J g k z n M L (pc + 1) (.int (x ^^^ y) :: st)) : J g k z n M L pc (.int y :: .int x :: st) := by
  intro H locs ls hR hS hl
  refine lv_ixor G.exec G.bytes hd ?_
  exact kk H locs ls hR hS hl
theorem J.ishl_r (G : Cx g ow cc nL d mc ms) {x y : Int32} (hd : decode cc pc = .ok (.ishl, 1)) (kk : J g k z n M L (pc + 1) (.int (x <<< (y &&& 31)) :: st)) : J g k z n M L pc (.int y :: .int x :: st) := by
  intro H locs ls hR hS hl
  refine lv_ishl G.exec G.bytes hd ?_
  exact kk H locs ls hR hS hl
theorem J.ishr_r (G : Cx g ow cc nL d mc ms) {x y : Int32} (hd : decode cc pc = .ok (.ishr, 1)) (kk : J g k z n M L (pc + 1) (.int (x >>> (y &&& 31)) :: st)) : J g k z n M L pc (.int y :: .int x :: st) := by
  intro H locs ls hR hS hl
  refine lv_ishr G.exec G.bytes hd ?_
  exact kk H locs ls hR hS hl
theorem J.iushr_r (G : Cx g ow cc nL d mc ms) {x y : Int32} (hd : decode cc pc = .ok (.iushr, 1)) (kk : J g k z n M L (pc + 1) (.int (x.toUInt32 >>> (y.toUInt32 &&& Int32.toUInt32 31)).toInt32 :: st)) : J g k z n M L pc (.int y :: .int x :: st) := by
  intro H locs ls hR hS hl
  refine lv_iushr G.exec G.bytes hd rfl ?_
  exact kk H locs ls hR hS hl
theorem J.i2l (G : Cx g ow cc nL d mc ms) {x : Int32} (hd : decode cc pc = .ok (.i2l, 1)) (kk : J g k z n M L (pc + 1) (.long x.toInt64 :: st)) : J g k z n M L pc (.int x :: st) := by
  intro H locs ls hR hS hl
  refine lv_i2l G.exec G.bytes hd rfl ?_
  exact kk H locs ls hR hS hl
theorem J.ladd (G : Cx g ow cc nL d mc ms) {x y : Int64} (hd : decode cc pc = .ok (.ladd, 1)) (kk : J g k z n M L (pc + 1) (.long (x + y) :: st)) : J g k z n M L pc (.long y :: .long x :: st) := by
  intro H locs ls hR hS hl
  refine lv_ladd G.exec G.bytes hd ?_
  exact kk H locs ls hR hS hl
theorem J.lmul (G : Cx g ow cc nL d mc ms) {x y : Int64} (hd : decode cc pc = .ok (.lmul, 1)) (kk : J g k z n M L (pc + 1) (.long (x * y) :: st)) : J g k z n M L pc (.long y :: .long x :: st) := by
  intro H locs ls hR hS hl
  refine lv_lmul G.exec G.bytes hd ?_
  exact kk H locs ls hR hS hl
theorem J.lconst (G : Cx g ow cc nL d mc ms) {b : Fin 2} (hd : decode cc pc = .ok (.lconst b, 1)) (kk : J g k z n M L (pc + 1) (.long (Int64.ofNat (b : Nat)) :: st)) : J g k z n M L pc (st) := by
  intro H locs ls hR hS hl
  refine lv_lconst G.exec G.bytes hd rfl ?_
  exact kk H locs ls hR hS hl
theorem J.dup (G : Cx g ow cc nL d mc ms) {v : Value} (hd : decode cc pc = .ok (.dup, 1)) (hv : v.category = 1) (kk : J g k z n M L (pc + 1) (v :: v :: st)) : J g k z n M L pc (v :: st) := by
  intro H locs ls hR hS hl
  refine lv_dup G.exec G.bytes hd hv ?_
  exact kk H locs ls hR hS hl
theorem J.dup2 (G : Cx g ow cc nL d mc ms) {v w : Value} (hd : decode cc pc = .ok (.dup2, 1)) (hv : v.category = 1) (hw : w.category = 1) (kk : J g k z n M L (pc + 1) (v :: w :: v :: w :: st)) : J g k z n M L pc (v :: w :: st) := by
  intro H locs ls hR hS hl
  refine lv_dup2_11 G.exec G.bytes hd hv hw ?_
  exact kk H locs ls hR hS hl
theorem J.pop (G : Cx g ow cc nL d mc ms) {v : Value} (hd : decode cc pc = .ok (.pop, 1)) (hv : v.category = 1) (kk : J g k z n M L (pc + 1) (st)) : J g k z n M L pc (v :: st) := by
  intro H locs ls hR hS hl
  refine lv_pop G.exec G.bytes hd hv ?_
  exact kk H locs ls hR hS hl
theorem J.goto (G : Cx g ow cc nL d mc ms) {off : Int} {tgt : Nat} (hd : decode cc pc = .ok (.goto off, 3)) (ht : (pc : Int) + off = (tgt : Int)) (kk : J g k z n M L tgt st) : J g k z n M L pc st := by
  intro H locs ls hR hS hl
  exact lv_goto G.exec G.bytes hd ht (kk H locs ls hR hS hl)
theorem J.icmp_eq (G : Cx g ow cc nL d mc ms) {a b : Int} {off : Int} {tgt : Nat} (hd : decode cc pc = .ok (.if_icmp .eq off, 3)) (ht : (pc : Int) + off = (tgt : Int)) (ha1 : -2147483648 ≤ a) (ha2 : a < 2147483648) (hb1 : -2147483648 ≤ b) (hb2 : b < 2147483648) (kt : a = b → J g k z n M L tgt st) (kf : a ≠ b → J g k z n M L (pc + 3) st) : J g k z n M L pc (.int (iI b) :: .int (iI a) :: st) := by
  intro H locs ls hR hS hl
  exact lv_icmp_eq G.exec G.bytes hd ht (fun h => kt ((iI_eq ha1 ha2 hb1 hb2).mp h) H locs ls hR hS hl) (fun h => kf (fun q => h ((iI_eq ha1 ha2 hb1 hb2).mpr q)) H locs ls hR hS hl)
theorem J.if_eq (G : Cx g ow cc nL d mc ms) {a : Int} {off : Int} {tgt : Nat} (hd : decode cc pc = .ok (.ifCond .eq off, 3)) (ht : (pc : Int) + off = (tgt : Int)) (ha1 : -2147483648 ≤ a) (ha2 : a < 2147483648) (kt : a = 0 → J g k z n M L tgt st) (kf : a ≠ 0 → J g k z n M L (pc + 3) st) : J g k z n M L pc (.int (iI a) :: st) := by
  have hb1 : -2147483648 ≤ (0 : Int) := by decide
  have hb2 : (0 : Int) < 2147483648 := by decide
  intro H locs ls hR hS hl
  refine lv_if_eq G.exec G.bytes hd ht (fun h => ?_) (fun h => ?_) <;> rw [← iI_0] at h
  · exact kt ((iI_eq ha1 ha2 hb1 hb2).mp h) H locs ls hR hS hl
  · exact kf (fun q => h ((iI_eq ha1 ha2 hb1 hb2).mpr q)) H locs ls hR hS hl
theorem J.icmp_ne (G : Cx g ow cc nL d mc ms) {a b : Int} {off : Int} {tgt : Nat} (hd : decode cc pc = .ok (.if_icmp .ne off, 3)) (ht : (pc : Int) + off = (tgt : Int)) (ha1 : -2147483648 ≤ a) (ha2 : a < 2147483648) (hb1 : -2147483648 ≤ b) (hb2 : b < 2147483648) (kt : a ≠ b → J g k z n M L tgt st) (kf : a = b → J g k z n M L (pc + 3) st) : J g k z n M L pc (.int (iI b) :: .int (iI a) :: st) := by
  intro H locs ls hR hS hl
  exact lv_icmp_ne G.exec G.bytes hd ht (fun h => kt (fun q => h ((iI_eq ha1 ha2 hb1 hb2).mpr q)) H locs ls hR hS hl) (fun h => kf ((iI_eq ha1 ha2 hb1 hb2).mp h) H locs ls hR hS hl)
theorem J.if_ne (G : Cx g ow cc nL d mc ms) {a : Int} {off : Int} {tgt : Nat} (hd : decode cc pc = .ok (.ifCond .ne off, 3)) (ht : (pc : Int) + off = (tgt : Int)) (ha1 : -2147483648 ≤ a) (ha2 : a < 2147483648) (kt : a ≠ 0 → J g k z n M L tgt st) (kf : a = 0 → J g k z n M L (pc + 3) st) : J g k z n M L pc (.int (iI a) :: st) := by
  have hb1 : -2147483648 ≤ (0 : Int) := by decide
  have hb2 : (0 : Int) < 2147483648 := by decide
  intro H locs ls hR hS hl
  refine lv_if_ne G.exec G.bytes hd ht (fun h => ?_) (fun h => ?_) <;> rw [← iI_0] at h
  · exact kt (fun q => h ((iI_eq ha1 ha2 hb1 hb2).mpr q)) H locs ls hR hS hl
  · exact kf ((iI_eq ha1 ha2 hb1 hb2).mp h) H locs ls hR hS hl
theorem J.icmp_lt (G : Cx g ow cc nL d mc ms) {a b : Int} {off : Int} {tgt : Nat} (hd : decode cc pc = .ok (.if_icmp .lt off, 3)) (ht : (pc : Int) + off = (tgt : Int)) (ha1 : -2147483648 ≤ a) (ha2 : a < 2147483648) (hb1 : -2147483648 ≤ b) (hb2 : b < 2147483648) (kt : a < b → J g k z n M L tgt st) (kf : b ≤ a → J g k z n M L (pc + 3) st) : J g k z n M L pc (.int (iI b) :: .int (iI a) :: st) := by
  intro H locs ls hR hS hl
  exact lv_icmp_lt G.exec G.bytes hd ht (fun h => kt ((iI_lt ha1 ha2 hb1 hb2).mp h) H locs ls hR hS hl) (fun h => kf (Int.not_lt.mp (fun q => h ((iI_lt ha1 ha2 hb1 hb2).mpr q))) H locs ls hR hS hl)
theorem J.if_lt (G : Cx g ow cc nL d mc ms) {a : Int} {off : Int} {tgt : Nat} (hd : decode cc pc = .ok (.ifCond .lt off, 3)) (ht : (pc : Int) + off = (tgt : Int)) (ha1 : -2147483648 ≤ a) (ha2 : a < 2147483648) (kt : a < 0 → J g k z n M L tgt st) (kf : 0 ≤ a → J g k z n M L (pc + 3) st) : J g k z n M L pc (.int (iI a) :: st) := by
  have hb1 : -2147483648 ≤ (0 : Int) := by decide
  have hb2 : (0 : Int) < 2147483648 := by decide
  intro H locs ls hR hS hl
  refine lv_if_lt G.exec G.bytes hd ht (fun h => ?_) (fun h => ?_) <;> rw [← iI_0] at h
  · exact kt ((iI_lt ha1 ha2 hb1 hb2).mp h) H locs ls hR hS hl
  · exact kf (Int.not_lt.mp (fun q => h ((iI_lt ha1 ha2 hb1 hb2).mpr q))) H locs ls hR hS hl
theorem J.icmp_ge (G : Cx g ow cc nL d mc ms) {a b : Int} {off : Int} {tgt : Nat} (hd : decode cc pc = .ok (.if_icmp .ge off, 3)) (ht : (pc : Int) + off = (tgt : Int)) (ha1 : -2147483648 ≤ a) (ha2 : a < 2147483648) (hb1 : -2147483648 ≤ b) (hb2 : b < 2147483648) (kt : b ≤ a → J g k z n M L tgt st) (kf : a < b → J g k z n M L (pc + 3) st) : J g k z n M L pc (.int (iI b) :: .int (iI a) :: st) := by
  intro H locs ls hR hS hl
  exact lv_icmp_ge G.exec G.bytes hd ht (fun h => kt ((iI_le hb1 hb2 ha1 ha2).mp h) H locs ls hR hS hl) (fun h => kf (Int.not_le.mp (fun q => h ((iI_le hb1 hb2 ha1 ha2).mpr q))) H locs ls hR hS hl)
theorem J.if_ge (G : Cx g ow cc nL d mc ms) {a : Int} {off : Int} {tgt : Nat} (hd : decode cc pc = .ok (.ifCond .ge off, 3)) (ht : (pc : Int) + off = (tgt : Int)) (ha1 : -2147483648 ≤ a) (ha2 : a < 2147483648) (kt : 0 ≤ a → J g k z n M L tgt st) (kf : a < 0 → J g k z n M L (pc + 3) st) : J g k z n M L pc (.int (iI a) :: st) := by
  have hb1 : -2147483648 ≤ (0 : Int) := by decide
  have hb2 : (0 : Int) < 2147483648 := by decide
  intro H locs ls hR hS hl
  refine lv_if_ge G.exec G.bytes hd ht (fun h => ?_) (fun h => ?_) <;> rw [← iI_0] at h
  · exact kt ((iI_le hb1 hb2 ha1 ha2).mp h) H locs ls hR hS hl
  · exact kf (Int.not_le.mp (fun q => h ((iI_le hb1 hb2 ha1 ha2).mpr q))) H locs ls hR hS hl
theorem J.icmp_gt (G : Cx g ow cc nL d mc ms) {a b : Int} {off : Int} {tgt : Nat} (hd : decode cc pc = .ok (.if_icmp .gt off, 3)) (ht : (pc : Int) + off = (tgt : Int)) (ha1 : -2147483648 ≤ a) (ha2 : a < 2147483648) (hb1 : -2147483648 ≤ b) (hb2 : b < 2147483648) (kt : b < a → J g k z n M L tgt st) (kf : a ≤ b → J g k z n M L (pc + 3) st) : J g k z n M L pc (.int (iI b) :: .int (iI a) :: st) := by
  intro H locs ls hR hS hl
  exact lv_icmp_gt G.exec G.bytes hd ht (fun h => kt ((iI_lt hb1 hb2 ha1 ha2).mp h) H locs ls hR hS hl) (fun h => kf (Int.not_lt.mp (fun q => h ((iI_lt hb1 hb2 ha1 ha2).mpr q))) H locs ls hR hS hl)
theorem J.if_gt (G : Cx g ow cc nL d mc ms) {a : Int} {off : Int} {tgt : Nat} (hd : decode cc pc = .ok (.ifCond .gt off, 3)) (ht : (pc : Int) + off = (tgt : Int)) (ha1 : -2147483648 ≤ a) (ha2 : a < 2147483648) (kt : 0 < a → J g k z n M L tgt st) (kf : a ≤ 0 → J g k z n M L (pc + 3) st) : J g k z n M L pc (.int (iI a) :: st) := by
  have hb1 : -2147483648 ≤ (0 : Int) := by decide
  have hb2 : (0 : Int) < 2147483648 := by decide
  intro H locs ls hR hS hl
  refine lv_if_gt G.exec G.bytes hd ht (fun h => ?_) (fun h => ?_) <;> rw [← iI_0] at h
  · exact kt ((iI_lt hb1 hb2 ha1 ha2).mp h) H locs ls hR hS hl
  · exact kf (Int.not_lt.mp (fun q => h ((iI_lt hb1 hb2 ha1 ha2).mpr q))) H locs ls hR hS hl
theorem J.icmp_le (G : Cx g ow cc nL d mc ms) {a b : Int} {off : Int} {tgt : Nat} (hd : decode cc pc = .ok (.if_icmp .le off, 3)) (ht : (pc : Int) + off = (tgt : Int)) (ha1 : -2147483648 ≤ a) (ha2 : a < 2147483648) (hb1 : -2147483648 ≤ b) (hb2 : b < 2147483648) (kt : a ≤ b → J g k z n M L tgt st) (kf : b < a → J g k z n M L (pc + 3) st) : J g k z n M L pc (.int (iI b) :: .int (iI a) :: st) := by
  intro H locs ls hR hS hl
  exact lv_icmp_le G.exec G.bytes hd ht (fun h => kt ((iI_le ha1 ha2 hb1 hb2).mp h) H locs ls hR hS hl) (fun h => kf (Int.not_le.mp (fun q => h ((iI_le ha1 ha2 hb1 hb2).mpr q))) H locs ls hR hS hl)
theorem J.if_le (G : Cx g ow cc nL d mc ms) {a : Int} {off : Int} {tgt : Nat} (hd : decode cc pc = .ok (.ifCond .le off, 3)) (ht : (pc : Int) + off = (tgt : Int)) (ha1 : -2147483648 ≤ a) (ha2 : a < 2147483648) (kt : a ≤ 0 → J g k z n M L tgt st) (kf : 0 < a → J g k z n M L (pc + 3) st) : J g k z n M L pc (.int (iI a) :: st) := by
  have hb1 : -2147483648 ≤ (0 : Int) := by decide
  have hb2 : (0 : Int) < 2147483648 := by decide
  intro H locs ls hR hS hl
  refine lv_if_le G.exec G.bytes hd ht (fun h => ?_) (fun h => ?_) <;> rw [← iI_0] at h
  · exact kt ((iI_le ha1 ha2 hb1 hb2).mp h) H locs ls hR hS hl
  · exact kf (Int.not_le.mp (fun q => h ((iI_le ha1 ha2 hb1 hb2).mpr q))) H locs ls hR hS hl
/-- a boolean -/
abbrev bI (b : Bool) : Int32 := if b then 1 else 0
theorem J.if_eq_b (G : Cx g ow cc nL d mc ms) {b : Bool} {off : Int} {tgt : Nat} (hd : decode cc pc = .ok (.ifCond .eq off, 3)) (ht : (pc : Int) + off = (tgt : Int)) (kt : b = false → J g k z n M L tgt st) (kf : b = true → J g k z n M L (pc + 3) st) : J g k z n M L pc (.int (bI b) :: st) := by
  intro H locs ls hR hS hl
  refine lv_if_eq G.exec G.bytes hd ht (fun h => ?_) (fun h => ?_)
  · cases b
    · exact kt rfl H locs ls hR hS hl
    · exact absurd h (by decide +kernel)
  · cases b
    · exact absurd rfl h
    · exact kf rfl H locs ls hR hS hl
theorem J.if_ne_b (G : Cx g ow cc nL d mc ms) {b : Bool} {off : Int} {tgt : Nat} (hd : decode cc pc = .ok (.ifCond .ne off, 3)) (ht : (pc : Int) + off = (tgt : Int)) (kt : b = true → J g k z n M L tgt st) (kf : b = false → J g k z n M L (pc + 3) st) : J g k z n M L pc (.int (bI b) :: st) := by
  intro H locs ls hR hS hl
  refine lv_if_ne G.exec G.bytes hd ht (fun h => ?_) (fun h => ?_)
  · cases b
    · exact absurd rfl h
    · exact kt rfl H locs ls hR hS hl
  · cases b
    · exact kf rfl H locs ls hR hS hl
    · exact absurd h (by decide +kernel)
theorem J.ldc (G : Cx g ow cc nL d mc ms) {index : Nat} {v : Int32} (hw : Cond.constant ow index v ∈ wG) (hd : decode cc pc = .ok (.ldc index, 2)) (kk : J g k z n M L (pc + 2) (.int v :: st)) : J g k z n M L pc st := by
  intro H locs ls hR hS hl
  exact lv_ldc G.exec G.bytes G.own (G.words _ hw) hd (kk H locs ls hR hS hl)
theorem J.ldcw (G : Cx g ow cc nL d mc ms) {index : Nat} {v : Int32} (hw : Cond.constant ow index v ∈ wG) (hd : decode cc pc = .ok (.ldc_w index, 3)) (kk : J g k z n M L (pc + 3) (.int v :: st)) : J g k z n M L pc st := by
  intro H locs ls hR hS hl
  exact lv_ldcw G.exec G.bytes G.own (G.words _ hw) hd (kk H locs ls hR hS hl)
theorem J.ldc2 (G : Cx g ow cc nL d mc ms) {index : Nat} {v : Int64} (hw : Cond.constantLong ow index v ∈ wG) (hd : decode cc pc = .ok (.ldc2_w index, 3)) (kk : J g k z n M L (pc + 3) (.long v :: st)) : J g k z n M L pc st := by
  intro H locs ls hR hS hl
  exact lv_ldc2 G.exec G.bytes G.own (G.words _ hw) hd (kk H locs ls hR hS hl)
theorem J.lcmp (G : Cx g ow cc nL d mc ms) {x y : Int64} (hd : decode cc pc = .ok (.lcmp, 1)) (kk : J g k z n M L (pc + 1) (.int (lg_cmp x y) :: st)) : J g k z n M L pc (.long y :: .long x :: st) := by
  intro H locs ls hR hS hl
  exact W.lcmp G.exec G.bytes hd (kk H locs ls hR hS hl)
end BASE3
end
section
section HEAP1
variable {g : GT} {ow : String} {cc : ByteArray} {nL d mc ms k z n pc : Nat} {M : AH} {L : List (Option Value)} {st : List Value}
theorem P1 {D : va_G} {cl : List vw_C} {q : Nat × va_E} {H : Heap} (h : va_at D cl q H) : va_P D cl [q] H := by
  intro i x hx
  have hz : i < 1 := (List.getElem?_eq_some_iff.mp hx).1
  rw [show i = 0 by omega] at hx
  cases hx
  exact h
/-- one cell is new, the others stay -/
def hset (M : AH) (a : Nat) (x : Ce) : AH := fun q => if q = a then some x else M q
theorem hset_s {M : AH} {a : Nat} {x : Ce} : hset M a x a = some x := by simp [hset]
theorem hset_n {M : AH} {a q : Nat} {x : Ce} (h : q ≠ a) : hset M a x q = M q := by simp [hset, h]
theorem Rp.set {E : En} {lo n : Nat} {M : AH} {H H' : Heap} {a : Nat} {x0 x : Ce} (hR : Rp E lo n M H) (hM : M a = some x0) (e1 : va_at E.1 vwCl (a, toE E x) H') (e2 : H'.size = H.size) (e3 : ∀ q : Nat, q ≠ a → H'[q]? = H[q]?) : Rp E lo n (hset M a x) H' := by
  refine ⟨e2.trans hR.1, hR.2.1, fun q y hq => ?_⟩
  by_cases h : q = a
  · subst h
    rw [hset_s] at hq
    cases hq
    exact ⟨(hR.2.2 _ _ hM).1, (hR.2.2 _ _ hM).2.1, e1⟩
  · rw [hset_n h] at hq
    obtain ⟨h1, h2, h3⟩ := hR.2.2 _ _ hq
    exact ⟨h1, h2, h3.kept (e3 q h)⟩
theorem Rp.new {E : En} {lo n : Nat} {M : AH} {H H' : Heap} {x : Ce} (hR : Rp E lo n M H) (e1 : va_at E.1 vwCl (n, toE E x) H') (e2 : H'.size = n + 1) (e3 : ∀ q : Nat, q < n → H'[q]? = H[q]?) : Rp E lo (n + 1) (hset M n x) H' := by
  refine ⟨e2, Nat.le_succ_of_le hR.2.1, fun q y hq => ?_⟩
  by_cases h : q = n
  · subst h
    rw [hset_s] at hq
    cases hq
    exact ⟨hR.2.1, Nat.lt_succ_self _, e1⟩
  · rw [hset_n h] at hq
    obtain ⟨h1, h2, h3⟩ := hR.2.2 _ _ hq
    exact ⟨h1, Nat.lt_succ_of_lt h2, h3.kept (e3 q h2)⟩
theorem Rp.none {E : En} {lo n : Nat} {M : AH} {H : Heap} (hR : Rp E lo n M H) {q : Nat} (hq : n ≤ q) : M q = none := by
  cases h : M q with
  | none => rfl
  | some x => exact absurd (hR.2.2 q x h).2.1 (by omega)
theorem J.getf (G : Cx g ow cc nL d mc ms) {C : String} {T : u_T} {N ci idx a : Nat} {fs : List Value} {v : Value} (hin : ∀ w ∈ u_ws C T N, w ∈ wG) (hc : vwCl[ci]? = some (C, T, N)) (i : Nat) (hw : Cond.fieldLink ow idx (T i).1 (T i).2.1 (T i).2.2.1 ∈ wG) (hd : decode cc pc = .ok (.getfield idx, 3)) (hM : M a = some (cO ci fs)) (hi : i < N) (hv : fs[i]? = some v) (kk : J g k z n M L (pc + 3) (v :: st)) : J g k z n M L pc (.ref a :: st) := by
  intro H locs ls hR hS hl
  exact va_get G.exec G.bytes G.words hin G.own G.kw.1 (P1 (hR.2.2 a _ hM).2.2) 0 rfl hc i hi (G.words _ hw) (fun _ h => h) hv hd (kk H locs ls hR hS hl)
theorem J.putf (G : Cx g ow cc nL d mc ms) {C : String} {T : u_T} {N ci idx a : Nat} {fs : List Value} {v : Value} {ty : FieldType} (hin : ∀ w ∈ u_ws C T N, w ∈ wG) (hc : vwCl[ci]? = some (C, T, N)) (ty0 : Nat → FieldType) (hty : ∀ k, k < N → parseFieldDescriptor (T k).2.2.1 = some (ty0 k)) (hnm : ∀ a, a < N → ∀ b, b < N → a ≠ b → (T a).2.1 ≠ (T b).2.1) (i : Nat) (hw : Cond.fieldLink ow idx (T i).1 (T i).2.1 (T i).2.2.1 ∈ wG) (hd : decode cc pc = .ok (.putfield idx, 3)) (hM : M a = some (cO ci fs)) (hi : i < N) (hl9 : i < fs.length) (hfin : (T i).2.2.2 = false ∨ ((gM g).name = "<init>" ∧ (T i).1 = ow)) (hde : parseFieldDescriptor (T i).2.2.1 = some ty) (hn : narrow ty v = v) (hfit : fits ty v = true) (kk : ∀ M' : AH, M' a = some (cO ci (fs.set i v)) → (∀ q, q ≠ a → M' q = M q) → J g k z n M' L (pc + 3) st) : J g k z n M L pc (v :: .ref a :: st) := by
  intro H locs ls hR hS hl
  have hP := P1 (hR.2.2 a _ hM).2.2
  have hcont : ∀ (H1 : Heap) (locs1 : List Loc), va_at (gE g).1 vwCl (a, .inr (ci, fs.set i v)) H1 → H1.size = H.size → (∀ q : Nat, q ≠ a → H1[q]? = H[q]?) → va_S (fun q => glo g ≤ q) (gs g).heap H1 locs1 → W (gp g) (gl g) (ge g) (gR g) (gs g) (gm g) (ga g) (gb g) (gM g) (gc g) H1 locs1 k z (gQ g) (F0 (gm g) (pc + 3) ls st) := by
    intro H1 locs1 h1 h2 h3 h4
    exact kk (hset M a (cO ci (fs.set i v))) hset_s (fun q hq => hset_n hq) H1 locs1 ls (hR.set hM h1 h2 h3) h4 hl
  have hap := va_apart (own := ow) G.words hin ty0 hty hnm G.kw.1 hc
  obtain ⟨r, h1, cell, q1, q2, q3, q4⟩ := hP 0 _ rfl
  have hr : r = (C, T, N) := Option.some.inj (h1.symm.trans hc)
  subst hr
  obtain ⟨hSl, hfc, kC, hkC, hkind⟩ := G.kw.1.1 ci _ hc
  obtain ⟨cf, kf, fi, f, hfd, hsl⟩ := hSl i hi
  have hlays := u_lays G.words hin hi
  have hst := (u_facts hfc hkC hlays hfd).1
  rcases hfin with hfin | ⟨hini, hdecl⟩
  · have hlay := G.words _ (hin _ (u_in_lay hi))
    unfold u_lay at hlay
    rw [if_neg (by rw [hfin]; decide)] at hlay
    have h6 := u_store hfc hkC hkind hlay hfd hde hn hfit
    refine W.putK G.exec G.bytes (f := f) ⟨G.own, G.words _ hw, ⟨_, _, _, hfd⟩, hst⟩ (by rw [q2]; exact h6) q1 q3 (by rw [hsl]; exact k2_hasslot (q4 i hi)) rfl rfl hd fun H' e1 e2 e3 => ?_
    rw [hsl] at e1 ⊢
    exact hcont H' _ ⟨_, hc, t_OB.to (V := updV (vp_V fs) i v) ⟨_, e1, q2, q3, t_set q4 hap hi v⟩ (fun j _ => vp_updV_set hl9 v j)⟩ e2 e3 (hS.put e2 e3 (hR.2.2 a _ hM).1)
  · have hlay := G.words _ (hin _ (u_in_lay hi))
    unfold u_lay at hlay
    by_cases hfin : (T i).2.2.2 = true
    · rw [if_pos hfin] at hlay
      have hcf : (gm g).cls = cf := by
        obtain ⟨_, _, c', _, _, _, -, -, hf', -, -, -, hown2, -⟩ := Cond.laysFinal_spec hlay
        have e1 : c' = cf := by have := hfd.symm.trans hf'; simp at this; exact this.1.symm
        rw [hdecl] at hown2
        rw [← e1]; exact Option.some.inj (G.own.symm.trans hown2)
      have h6 := u_fits hfc hkC hkind (Or.inr hlay) hfd hde hn hfit
      refine W.putFinK G.exec G.bytes G.own (G.words _ hw) hfd hst hcf hini (by rw [q2]; exact h6) q1 q3 (by rw [hsl]; exact k2_hasslot (q4 i hi)) rfl rfl hd fun H' e1 e2 e3 => ?_
      rw [hsl] at e1 ⊢
      exact hcont H' _ ⟨_, hc, t_OB.to (V := updV (vp_V fs) i v) ⟨_, e1, q2, q3, t_set q4 hap hi v⟩ (fun j _ => vp_updV_set hl9 v j)⟩ e2 e3 (hS.put e2 e3 (hR.2.2 a _ hM).1)
    · rw [if_neg hfin] at hlay
      have h6 := u_store hfc hkC hkind hlay hfd hde hn hfit
      refine W.putK G.exec G.bytes (f := f) ⟨G.own, G.words _ hw, ⟨_, _, _, hfd⟩, hst⟩ (by rw [q2]; exact h6) q1 q3 (by rw [hsl]; exact k2_hasslot (q4 i hi)) rfl rfl hd fun H' e1 e2 e3 => ?_
      rw [hsl] at e1 ⊢
      exact hcont H' _ ⟨_, hc, t_OB.to (V := updV (vp_V fs) i v) ⟨_, e1, q2, q3, t_set q4 hap hi v⟩ (fun j _ => vp_updV_set hl9 v j)⟩ e2 e3 (hS.put e2 e3 (hR.2.2 a _ hM).1)
/-! rows of numbers -/
theorem J.alen (G : Cx g ow cc nL d mc ms) {a K len : Nat} {x : vp_A} (hd : decode cc pc = .ok (.arraylength, 1)) (hM : M a = some (.inr (K, x))) (hK : K < 5) (hx : x.1 = len) (hfit : ∀ (cA : ClassId) (ty : FieldType), ArrOfT (gs g) cA ty → (gs g).isArrayOf (vp_cell cA x) ty) (kk : J g k z n M L (pc + 1) (.int (iI (len : Int)) :: st)) : J g k z n M L pc (.ref a :: st) := by
  intro H locs ls hR hS hl
  have hcell : H[a]? = some (vp_cell ((gE g).2 K) x) := (hR.2.2 a _ hM).2.2
  have hsz : (vp_cell ((gE g).2 K) x).slots.size = x.1 := by
    obtain ⟨n, f | f | f | f | f⟩ := x <;> exact arrV_size _ _ _
  have hty : ∃ ty, ArrOfT (gs g) ((gE g).2 K) ty := by
    have hk2 := G.kw.1.2
    rcases (show K = 0 ∨ K = 1 ∨ K = 2 ∨ K = 3 ∨ K = 4 by omega) with rfl | rfl | rfl | rfl | rfl
    · exact ⟨_, (hk2 0 _ rfl).1⟩
    · exact ⟨_, (hk2 1 _ rfl).1⟩
    · exact ⟨_, (hk2 2 _ rfl).1⟩
    · exact ⟨_, (hk2 3 _ rfl).1⟩
    · exact ⟨_, (hk2 4 _ rfl).1⟩
  obtain ⟨ty, hty⟩ := hty
  refine W.alen (n := iI (len : Int)) G.exec G.bytes hcell (hfit _ ty hty) ?_ rfl rfl hd (kk H locs ls hR hS hl)
  rw [hsz, hx, iI_nat]
  rfl
theorem J.alenI (G : Cx g ow cc nL d mc ms) {a len : Nat} {f : Nat → Int32} (hd : decode cc pc = .ok (.arraylength, 1)) (hM : M a = some (.inr (0, len, .inl f))) (kk : J g k z n M L (pc + 1) (.int (iI (len : Int)) :: st)) : J g k z n M L pc (.ref a :: st) :=
  J.alen G hd hM (by decide) rfl (fun _ _ h => h len (fun j => .int (f j))) kk
theorem J.alenR (G : Cx g ow cc nL d mc ms) {a K len : Nat} {f : Nat → Option Nat} (hd : decode cc pc = .ok (.arraylength, 1)) (hM : M a = some (cR K len f)) (hK : K < 5) (kk : J g k z n M L (pc + 1) (.int (iI (len : Int)) :: st)) : J g k z n M L pc (.ref a :: st) :=
  J.alen G hd hM hK rfl (fun _ _ h => h len (fun j => va_rf (f j))) kk
theorem J.iald (G : Cx g ow cc nL d mc ms) {a len : Nat} {f : Nat → Int} {zi : Int} (hd : decode cc pc = .ok (.iaload, 1)) (hM : M a = some (cA len f)) (j : Nat) (hz : zi = (j : Int)) (hj : j < len) (hN : len < 2147483648) (kk : J g k z n M L (pc + 1) (.int (iI (f j)) :: st)) : J g k z n M L pc (.int (iI zi) :: .ref a :: st) := by
  intro H locs ls hR hS hl
  subst hz
  refine va_iald G.exec G.bytes G.kw.1 (P1 (hR.2.2 a _ hM).2.2) 0 0 rfl rfl (iI_vp hj hN) hd ?_
  rw [iI_cl (by omega)]
  exact kk H locs ls hR hS hl
theorem J.lald (G : Cx g ow cc nL d mc ms) {a len : Nat} {f : Nat → Int64} {zi : Int} (hd : decode cc pc = .ok (.laload, 1)) (hM : M a = some (cJ len f)) (j : Nat) (hz : zi = (j : Int)) (hj : j < len) (hN : len < 2147483648) (kk : J g k z n M L (pc + 1) (.long (f j) :: st)) : J g k z n M L pc (.int (iI zi) :: .ref a :: st) := by
  intro H locs ls hR hS hl
  subst hz
  refine va_lald G.exec G.bytes G.kw.1 (P1 (hR.2.2 a _ hM).2.2) 0 1 rfl rfl (iI_vp hj hN) hd ?_
  rw [iI_cl (by omega)]
  exact kk H locs ls hR hS hl
theorem J.dald (G : Cx g ow cc nL d mc ms) {a len : Nat} {f : Nat → UInt64} {zi : Int} (hd : decode cc pc = .ok (.daload, 1)) (hM : M a = some (cD len f)) (j : Nat) (hz : zi = (j : Int)) (hj : j < len) (hN : len < 2147483648) (kk : J g k z n M L (pc + 1) (.double (f j) :: st)) : J g k z n M L pc (.int (iI zi) :: .ref a :: st) := by
  intro H locs ls hR hS hl
  subst hz
  refine va_dald G.exec G.bytes G.kw.1 (P1 (hR.2.2 a _ hM).2.2) 0 2 rfl rfl (iI_vp hj hN) hd ?_
  rw [iI_cl (by omega)]
  exact kk H locs ls hR hS hl
theorem J.iast (G : Cx g ow cc nL d mc ms) {a len : Nat} {f : Nat → Int} {zi v : Int} (hd : decode cc pc = .ok (.iastore, 1)) (hM : M a = some (cA len f)) (j : Nat) (hz : zi = (j : Int)) (hj : j < len) (hN : len < 2147483648) (kk : ∀ M' : AH, M' a = some (cA len (upI f j v)) → (∀ q, q ≠ a → M' q = M q) → J g k z n M' L (pc + 1) st) : J g k z n M L pc (.int (iI v) :: .int (iI zi) :: .ref a :: st) := by
  intro H locs ls hR hS hl
  subst hz
  have hin : vp_in (iI (j : Int)) len := iI_vp hj hN
  have hcell : H[a]? = some (vp_cell ((gE g).2 0) (len, .inl (fun j => iI (f j)))) := (hR.2.2 a _ hM).2.2
  refine W.iast G.exec G.bytes hcell ((G.kw.1.2 0 _ rfl).1 len (fun j => .int (iI (f j)))) (fun q => by cases q) (by show ¬ (_ ∨ (arrV _ _ _).slots.size ≤ _); rw [arrV_size]; exact hin) rfl rfl hd fun H1 e zz oq => ?_
  refine kk (hset M a (cA len (upI f j v))) hset_s (fun q hq => hset_n hq) H1 _ ls (hR.set hM ?_ zz oq) (hS.put zz oq (hR.2.2 a _ hM).1) hl
  show H1[a]? = some (vp_cell _ _)
  rw [e, vp_cell_i, vp_cell_i, arrV_store, iI_cl (by omega)]
  congr 2
  funext q
  by_cases hq : q = j
  · subst hq; simp [updV, upI]
  · simp [updV, upI, hq]
theorem J.last (G : Cx g ow cc nL d mc ms) {a len : Nat} {f : Nat → Int64} {zi : Int} {v : Int64} (hd : decode cc pc = .ok (.lastore, 1)) (hM : M a = some (cJ len f)) (j : Nat) (hz : zi = (j : Int)) (hj : j < len) (hN : len < 2147483648) (kk : ∀ M' : AH, M' a = some (cJ len (vp_updL f j v)) → (∀ q, q ≠ a → M' q = M q) → J g k z n M' L (pc + 1) st) : J g k z n M L pc (.long v :: .int (iI zi) :: .ref a :: st) := by
  intro H locs ls hR hS hl
  subst hz
  have hin : vp_in (iI (j : Int)) len := iI_vp hj hN
  have hcell : H[a]? = some (vp_cell ((gE g).2 1) (len, .inr (.inl f))) := (hR.2.2 a _ hM).2.2
  refine W.last G.exec G.bytes hcell ((G.kw.1.2 1 _ rfl).1 len (fun j => .long (f j))) (fun q => by cases q) (by show ¬ (_ ∨ (arrV _ _ _).slots.size ≤ _); rw [arrV_size]; exact hin) rfl rfl hd fun H1 e zz oq => ?_
  refine kk (hset M a (cJ len (vp_updL f j v))) hset_s (fun q hq => hset_n hq) H1 _ ls (hR.set hM ?_ zz oq) (hS.put zz oq (hR.2.2 a _ hM).1) hl
  show H1[a]? = some (vp_cell _ _)
  rw [e, vp_cell_l, vp_cell_l, arrV_store, iI_cl (by omega)]
  congr 2
  funext q
  by_cases hq : q = j
  · subst hq; simp [updV, vp_updL]
  · simp [updV, vp_updL, hq]
theorem J.aald (G : Cx g ow cc nL d mc ms) {a len K : Nat} {f : Nat → Option Nat} {zi : Int} {b : Nat} (hd : decode cc pc = .ok (.aaload, 1)) (hM : M a = some (cR K len f)) (hK : K = 3 ∨ K = 4) (j : Nat) (hz : zi = (j : Int)) (hj : j < len) (hN : len < 2147483648) (hf : f j = some b) (kk : J g k z n M L (pc + 1) (.ref b :: st)) : J g k z n M L pc (.int (iI zi) :: .ref a :: st) := by
  intro H locs ls hR hS hl
  subst hz
  have hin : vp_in (iI (j : Int)) len := iI_vp hj hN
  have hcell : H[a]? = some (vp_cell ((gE g).2 K) (len, .inr (.inr (.inr (.inr f))))) := (hR.2.2 a _ hM).2.2
  have hty : ∃ ty : FieldType, ty.isReference = true ∧ ArrOfT (gs g) ((gE g).2 K) ty := by
    rcases hK with rfl | rfl
    · exact ⟨_, rfl, (G.kw.1.2 3 _ rfl).1⟩
    · exact ⟨_, rfl, (G.kw.1.2 4 _ rfl).1⟩
  obtain ⟨ty, hty, hA⟩ := hty
  refine W.aald (v := va_rf (f j)) (ty := ty) G.exec G.bytes hcell (hA len (fun j => va_rf (f j))) hty (fun q => by cases q) (by show ¬ (_ ∨ (arrV _ _ _).slots.size ≤ _); rw [arrV_size]; exact hin) (by show (arrV _ _ _).slots[_]? = _; rw [iI_cl (by omega), arrV_read _ _ hj]) rfl rfl hd ?_
  rw [hf]
  exact kk H locs ls hR hS hl
end HEAP1
end
