section
-- ===== PART A: goes FIRST, ahead of the names: the tables' words, and 'selects' of the private methods out of them =====
/-- a private method of a class that the tables say can be made, by its rows of tables_1 -/
def lw_okq (q : MethodName × Nat) : Prop := (q.1.cls ≠ "java/lang/invoke/MethodHandle" ∧ q.1.cls ≠ "java/lang/invoke/VarHandle") ∧ Cond.instantiable q.1.cls q.2 ∈ tables_1 ∧ Cond.privateMethod q.1 ∈ tables_1 ∧ Cond.instanceMethod q.1 ∈ tables_1
theorem lw_p0 : lw_okq (⟨"java/lang/Throwable", "fillInStackTrace", "(I)Ljava/lang/Throwable;"⟩, 6) := ⟨⟨by decide +kernel, by decide +kernel⟩, List.mem_of_getElem? (i := 353) (by decide +kernel), List.mem_of_getElem? (i := 351) (by decide +kernel), List.mem_of_getElem? (i := 352) (by decide +kernel)⟩
theorem lw_p1 : lw_okq (⟨"GuardNet$Reader", "next", "()I"⟩, 3) := ⟨⟨by decide +kernel, by decide +kernel⟩, List.mem_of_getElem? (i := 45) (by decide +kernel), List.mem_of_getElem? (i := 413) (by decide +kernel), List.mem_of_getElem? (i := 414) (by decide +kernel)⟩
theorem lw_p2 : lw_okq (⟨"GuardNet$Reader", "readTerm", "(I)LGuardNet$Term;"⟩, 3) := ⟨⟨by decide +kernel, by decide +kernel⟩, List.mem_of_getElem? (i := 45) (by decide +kernel), List.mem_of_getElem? (i := 420) (by decide +kernel), List.mem_of_getElem? (i := 421) (by decide +kernel)⟩
theorem lw_p3 : lw_okq (⟨"GuardNet$Reader", "readNumber", "()LGuardNet$Term;"⟩, 3) := ⟨⟨by decide +kernel, by decide +kernel⟩, List.mem_of_getElem? (i := 45) (by decide +kernel), List.mem_of_getElem? (i := 457) (by decide +kernel), List.mem_of_getElem? (i := 458) (by decide +kernel)⟩
theorem lw_p4 : lw_okq (⟨"GuardNet$Reader", "pass", "(I)Z"⟩, 3) := ⟨⟨by decide +kernel, by decide +kernel⟩, List.mem_of_getElem? (i := 45) (by decide +kernel), List.mem_of_getElem? (i := 461) (by decide +kernel), List.mem_of_getElem? (i := 462) (by decide +kernel)⟩
theorem lw_p5 : lw_okq (⟨"GuardNet$Reader", "readParts", "(LGuardNet$Term;I)Z"⟩, 3) := ⟨⟨by decide +kernel, by decide +kernel⟩, List.mem_of_getElem? (i := 45) (by decide +kernel), List.mem_of_getElem? (i := 465) (by decide +kernel), List.mem_of_getElem? (i := 466) (by decide +kernel)⟩
theorem lw_p6 : lw_okq (⟨"GuardNet$Reader", "readItems", "(Ljava/util/ArrayList;Z)Z"⟩, 3) := ⟨⟨by decide +kernel, by decide +kernel⟩, List.mem_of_getElem? (i := 45) (by decide +kernel), List.mem_of_getElem? (i := 496) (by decide +kernel), List.mem_of_getElem? (i := 497) (by decide +kernel)⟩
theorem lw_p7 : lw_okq (⟨"GuardNet$Reader", "readGuard", "()LGuardNet$Item;"⟩, 3) := ⟨⟨by decide +kernel, by decide +kernel⟩, List.mem_of_getElem? (i := 45) (by decide +kernel), List.mem_of_getElem? (i := 500) (by decide +kernel), List.mem_of_getElem? (i := 501) (by decide +kernel)⟩
theorem lw_p8 : lw_okq (⟨"GuardNet$Reader", "readGoal", "()LGuardNet$Item;"⟩, 3) := ⟨⟨by decide +kernel, by decide +kernel⟩, List.mem_of_getElem? (i := 45) (by decide +kernel), List.mem_of_getElem? (i := 534) (by decide +kernel), List.mem_of_getElem? (i := 535) (by decide +kernel)⟩
theorem lw_p9 : lw_okq (⟨"GuardNet$Reader", "readReckoning", "(LGuardNet$Term;)LGuardNet$Item;"⟩, 3) := ⟨⟨by decide +kernel, by decide +kernel⟩, List.mem_of_getElem? (i := 45) (by decide +kernel), List.mem_of_getElem? (i := 538) (by decide +kernel), List.mem_of_getElem? (i := 539) (by decide +kernel)⟩
theorem lw_p10 : lw_okq (⟨"GuardNet$Reader", "readLevel", "(LGuardNet$Term;)LGuardNet$Item;"⟩, 3) := ⟨⟨by decide +kernel, by decide +kernel⟩, List.mem_of_getElem? (i := 45) (by decide +kernel), List.mem_of_getElem? (i := 542) (by decide +kernel), List.mem_of_getElem? (i := 543) (by decide +kernel)⟩
theorem lw_p11 : lw_okq (⟨"java/util/ArrayList", "add", "(Ljava/lang/Object;[Ljava/lang/Object;I)V"⟩, 3) := ⟨⟨by decide +kernel, by decide +kernel⟩, List.mem_of_getElem? (i := 62) (by decide +kernel), List.mem_of_getElem? (i := 550) (by decide +kernel), List.mem_of_getElem? (i := 551) (by decide +kernel)⟩
theorem lw_p12 : lw_okq (⟨"java/util/ArrayList", "grow", "()[Ljava/lang/Object;"⟩, 3) := ⟨⟨by decide +kernel, by decide +kernel⟩, List.mem_of_getElem? (i := 62) (by decide +kernel), List.mem_of_getElem? (i := 554) (by decide +kernel), List.mem_of_getElem? (i := 555) (by decide +kernel)⟩
theorem lw_p13 : lw_okq (⟨"java/util/ArrayList", "grow", "(I)[Ljava/lang/Object;"⟩, 3) := ⟨⟨by decide +kernel, by decide +kernel⟩, List.mem_of_getElem? (i := 62) (by decide +kernel), List.mem_of_getElem? (i := 558) (by decide +kernel), List.mem_of_getElem? (i := 559) (by decide +kernel)⟩
theorem lw_p14 : lw_okq (⟨"java/util/ArrayList", "fastRemove", "([Ljava/lang/Object;I)V"⟩, 3) := ⟨⟨by decide +kernel, by decide +kernel⟩, List.mem_of_getElem? (i := 62) (by decide +kernel), List.mem_of_getElem? (i := 635) (by decide +kernel), List.mem_of_getElem? (i := 636) (by decide +kernel)⟩
theorem lw_p15 : lw_okq (⟨"GuardNet$Network", "dismiss", "(LGuardNet$Row;)V"⟩, 8) := ⟨⟨by decide +kernel, by decide +kernel⟩, List.mem_of_getElem? (i := 88) (by decide +kernel), List.mem_of_getElem? (i := 657) (by decide +kernel), List.mem_of_getElem? (i := 658) (by decide +kernel)⟩
def lw_privs_1 : List (MethodName × Nat) := [(⟨"java/lang/Throwable", "fillInStackTrace", "(I)Ljava/lang/Throwable;"⟩, 6), (⟨"GuardNet$Reader", "next", "()I"⟩, 3), (⟨"GuardNet$Reader", "readTerm", "(I)LGuardNet$Term;"⟩, 3), (⟨"GuardNet$Reader", "readNumber", "()LGuardNet$Term;"⟩, 3), (⟨"GuardNet$Reader", "pass", "(I)Z"⟩, 3), (⟨"GuardNet$Reader", "readParts", "(LGuardNet$Term;I)Z"⟩, 3), (⟨"GuardNet$Reader", "readItems", "(Ljava/util/ArrayList;Z)Z"⟩, 3), (⟨"GuardNet$Reader", "readGuard", "()LGuardNet$Item;"⟩, 3), (⟨"GuardNet$Reader", "readGoal", "()LGuardNet$Item;"⟩, 3), (⟨"GuardNet$Reader", "readReckoning", "(LGuardNet$Term;)LGuardNet$Item;"⟩, 3), (⟨"GuardNet$Reader", "readLevel", "(LGuardNet$Term;)LGuardNet$Item;"⟩, 3), (⟨"java/util/ArrayList", "add", "(Ljava/lang/Object;[Ljava/lang/Object;I)V"⟩, 3), (⟨"java/util/ArrayList", "grow", "()[Ljava/lang/Object;"⟩, 3), (⟨"java/util/ArrayList", "grow", "(I)[Ljava/lang/Object;"⟩, 3), (⟨"java/util/ArrayList", "fastRemove", "([Ljava/lang/Object;I)V"⟩, 3), (⟨"GuardNet$Network", "dismiss", "(LGuardNet$Row;)V"⟩, 8)]
theorem lw_r1 : ∀ q ∈ lw_privs_1, lw_okq q := List.forall_mem_cons.mpr ⟨lw_p0, List.forall_mem_cons.mpr ⟨lw_p1, List.forall_mem_cons.mpr ⟨lw_p2, List.forall_mem_cons.mpr ⟨lw_p3, List.forall_mem_cons.mpr ⟨lw_p4, List.forall_mem_cons.mpr ⟨lw_p5, List.forall_mem_cons.mpr ⟨lw_p6, List.forall_mem_cons.mpr ⟨lw_p7, List.forall_mem_cons.mpr ⟨lw_p8, List.forall_mem_cons.mpr ⟨lw_p9, List.forall_mem_cons.mpr ⟨lw_p10, List.forall_mem_cons.mpr ⟨lw_p11, List.forall_mem_cons.mpr ⟨lw_p12, List.forall_mem_cons.mpr ⟨lw_p13, List.forall_mem_cons.mpr ⟨lw_p14, List.forall_mem_cons.mpr ⟨lw_p15, fun _ h => absurd h List.not_mem_nil⟩⟩⟩⟩⟩⟩⟩⟩⟩⟩⟩⟩⟩⟩⟩⟩
theorem lw_p16 : lw_okq (⟨"GuardNet$Network", "put", "(LGuardNet$Item;I)I"⟩, 8) := ⟨⟨by decide +kernel, by decide +kernel⟩, List.mem_of_getElem? (i := 88) (by decide +kernel), List.mem_of_getElem? (i := 691) (by decide +kernel), List.mem_of_getElem? (i := 692) (by decide +kernel)⟩
theorem lw_p17 : lw_okq (⟨"GuardNet$Use", "build", "(LGuardNet$Term;)LGuardNet$Node;"⟩, 5) := ⟨⟨by decide +kernel, by decide +kernel⟩, List.mem_of_getElem? (i := 94) (by decide +kernel), List.mem_of_getElem? (i := 695) (by decide +kernel), List.mem_of_getElem? (i := 696) (by decide +kernel)⟩
theorem lw_p18 : lw_okq (⟨"GuardNet$Use", "isMet", "(I)Z"⟩, 5) := ⟨⟨by decide +kernel, by decide +kernel⟩, List.mem_of_getElem? (i := 94) (by decide +kernel), List.mem_of_getElem? (i := 699) (by decide +kernel), List.mem_of_getElem? (i := 700) (by decide +kernel)⟩
theorem lw_p19 : lw_okq (⟨"GuardNet$Use", "meet", "(ILGuardNet$Node;)V"⟩, 5) := ⟨⟨by decide +kernel, by decide +kernel⟩, List.mem_of_getElem? (i := 94) (by decide +kernel), List.mem_of_getElem? (i := 754) (by decide +kernel), List.mem_of_getElem? (i := 755) (by decide +kernel)⟩
theorem lw_p20 : lw_okq (⟨"GuardNet$Network", "takeFirst", "()LGuardNet$Goal;"⟩, 8) := ⟨⟨by decide +kernel, by decide +kernel⟩, List.mem_of_getElem? (i := 88) (by decide +kernel), List.mem_of_getElem? (i := 820) (by decide +kernel), List.mem_of_getElem? (i := 821) (by decide +kernel)⟩
theorem lw_p21 : lw_okq (⟨"GuardNet$Network", "reduce", "(LGuardNet$Goal;Ljava/util/ArrayList;)I"⟩, 8) := ⟨⟨by decide +kernel, by decide +kernel⟩, List.mem_of_getElem? (i := 88) (by decide +kernel), List.mem_of_getElem? (i := 824) (by decide +kernel), List.mem_of_getElem? (i := 825) (by decide +kernel)⟩
theorem lw_p22 : lw_okq (⟨"GuardNet$Use", "match", "(LGuardNet$Term;LGuardNet$Node;)I"⟩, 5) := ⟨⟨by decide +kernel, by decide +kernel⟩, List.mem_of_getElem? (i := 94) (by decide +kernel), List.mem_of_getElem? (i := 834) (by decide +kernel), List.mem_of_getElem? (i := 835) (by decide +kernel)⟩
theorem lw_p23 : lw_okq (⟨"GuardNet$Use", "compare", "(LGuardNet$Node;LGuardNet$Node;)I"⟩, 5) := ⟨⟨by decide +kernel, by decide +kernel⟩, List.mem_of_getElem? (i := 94) (by decide +kernel), List.mem_of_getElem? (i := 843) (by decide +kernel), List.mem_of_getElem? (i := 844) (by decide +kernel)⟩
theorem lw_p24 : lw_okq (⟨"GuardNet$Pairs", "beginAlike", "()Z"⟩, 6) := ⟨⟨by decide +kernel, by decide +kernel⟩, List.mem_of_getElem? (i := 118) (by decide +kernel), List.mem_of_getElem? (i := 856) (by decide +kernel), List.mem_of_getElem? (i := 857) (by decide +kernel)⟩
theorem lw_p25 : lw_okq (⟨"GuardNet$Pairs", "pushParts", "()V"⟩, 6) := ⟨⟨by decide +kernel, by decide +kernel⟩, List.mem_of_getElem? (i := 118) (by decide +kernel), List.mem_of_getElem? (i := 860) (by decide +kernel), List.mem_of_getElem? (i := 861) (by decide +kernel)⟩
theorem lw_p26 : lw_okq (⟨"GuardNet$Use", "waitFor", "(LGuardNet$Node;)I"⟩, 5) := ⟨⟨by decide +kernel, by decide +kernel⟩, List.mem_of_getElem? (i := 94) (by decide +kernel), List.mem_of_getElem? (i := 868) (by decide +kernel), List.mem_of_getElem? (i := 869) (by decide +kernel)⟩
theorem lw_p27 : lw_okq (⟨"GuardNet$Use", "check", "(LGuardNet$Item;)I"⟩, 5) := ⟨⟨by decide +kernel, by decide +kernel⟩, List.mem_of_getElem? (i := 94) (by decide +kernel), List.mem_of_getElem? (i := 875) (by decide +kernel), List.mem_of_getElem? (i := 876) (by decide +kernel)⟩
theorem lw_p28 : lw_okq (⟨"GuardNet$Use", "below", "(LGuardNet$Node;LGuardNet$Node;)I"⟩, 5) := ⟨⟨by decide +kernel, by decide +kernel⟩, List.mem_of_getElem? (i := 94) (by decide +kernel), List.mem_of_getElem? (i := 883) (by decide +kernel), List.mem_of_getElem? (i := 884) (by decide +kernel)⟩
theorem lw_p29 : lw_okq (⟨"GuardNet$Network", "putAll", "(Ljava/util/ArrayList;I)I"⟩, 8) := ⟨⟨by decide +kernel, by decide +kernel⟩, List.mem_of_getElem? (i := 88) (by decide +kernel), List.mem_of_getElem? (i := 894) (by decide +kernel), List.mem_of_getElem? (i := 895) (by decide +kernel)⟩
theorem lw_p30 : lw_okq (⟨"GuardNet$Network", "settle", "(LGuardNet$Goal;I)V"⟩, 8) := ⟨⟨by decide +kernel, by decide +kernel⟩, List.mem_of_getElem? (i := 88) (by decide +kernel), List.mem_of_getElem? (i := 914) (by decide +kernel), List.mem_of_getElem? (i := 915) (by decide +kernel)⟩
theorem lw_p31 : lw_okq (⟨"GuardNet$Network", "makeSame", "(LGuardNet$Node;LGuardNet$Node;)I"⟩, 8) := ⟨⟨by decide +kernel, by decide +kernel⟩, List.mem_of_getElem? (i := 88) (by decide +kernel), List.mem_of_getElem? (i := 918) (by decide +kernel), List.mem_of_getElem? (i := 919) (by decide +kernel)⟩
def lw_privs_2 : List (MethodName × Nat) := [(⟨"GuardNet$Network", "put", "(LGuardNet$Item;I)I"⟩, 8), (⟨"GuardNet$Use", "build", "(LGuardNet$Term;)LGuardNet$Node;"⟩, 5), (⟨"GuardNet$Use", "isMet", "(I)Z"⟩, 5), (⟨"GuardNet$Use", "meet", "(ILGuardNet$Node;)V"⟩, 5), (⟨"GuardNet$Network", "takeFirst", "()LGuardNet$Goal;"⟩, 8), (⟨"GuardNet$Network", "reduce", "(LGuardNet$Goal;Ljava/util/ArrayList;)I"⟩, 8), (⟨"GuardNet$Use", "match", "(LGuardNet$Term;LGuardNet$Node;)I"⟩, 5), (⟨"GuardNet$Use", "compare", "(LGuardNet$Node;LGuardNet$Node;)I"⟩, 5), (⟨"GuardNet$Pairs", "beginAlike", "()Z"⟩, 6), (⟨"GuardNet$Pairs", "pushParts", "()V"⟩, 6), (⟨"GuardNet$Use", "waitFor", "(LGuardNet$Node;)I"⟩, 5), (⟨"GuardNet$Use", "check", "(LGuardNet$Item;)I"⟩, 5), (⟨"GuardNet$Use", "below", "(LGuardNet$Node;LGuardNet$Node;)I"⟩, 5), (⟨"GuardNet$Network", "putAll", "(Ljava/util/ArrayList;I)I"⟩, 8), (⟨"GuardNet$Network", "settle", "(LGuardNet$Goal;I)V"⟩, 8), (⟨"GuardNet$Network", "makeSame", "(LGuardNet$Node;LGuardNet$Node;)I"⟩, 8)]
theorem lw_r2 : ∀ q ∈ lw_privs_2, lw_okq q := List.forall_mem_cons.mpr ⟨lw_p16, List.forall_mem_cons.mpr ⟨lw_p17, List.forall_mem_cons.mpr ⟨lw_p18, List.forall_mem_cons.mpr ⟨lw_p19, List.forall_mem_cons.mpr ⟨lw_p20, List.forall_mem_cons.mpr ⟨lw_p21, List.forall_mem_cons.mpr ⟨lw_p22, List.forall_mem_cons.mpr ⟨lw_p23, List.forall_mem_cons.mpr ⟨lw_p24, List.forall_mem_cons.mpr ⟨lw_p25, List.forall_mem_cons.mpr ⟨lw_p26, List.forall_mem_cons.mpr ⟨lw_p27, List.forall_mem_cons.mpr ⟨lw_p28, List.forall_mem_cons.mpr ⟨lw_p29, List.forall_mem_cons.mpr ⟨lw_p30, List.forall_mem_cons.mpr ⟨lw_p31, fun _ h => absurd h List.not_mem_nil⟩⟩⟩⟩⟩⟩⟩⟩⟩⟩⟩⟩⟩⟩⟩⟩
theorem lw_p32 : lw_okq (⟨"GuardNet$Network", "join", "(LGuardNet$Node;LGuardNet$Node;)V"⟩, 8) := ⟨⟨by decide +kernel, by decide +kernel⟩, List.mem_of_getElem? (i := 88) (by decide +kernel), List.mem_of_getElem? (i := 932) (by decide +kernel), List.mem_of_getElem? (i := 933) (by decide +kernel)⟩
theorem lw_p33 : lw_okq (⟨"GuardNet$Network", "wake", "(LGuardNet$Node;)V"⟩, 8) := ⟨⟨by decide +kernel, by decide +kernel⟩, List.mem_of_getElem? (i := 88) (by decide +kernel), List.mem_of_getElem? (i := 936) (by decide +kernel), List.mem_of_getElem? (i := 937) (by decide +kernel)⟩
theorem lw_p34 : lw_okq (⟨"GuardNet$Network", "reckon", "(LGuardNet$Goal;)I"⟩, 8) := ⟨⟨by decide +kernel, by decide +kernel⟩, List.mem_of_getElem? (i := 88) (by decide +kernel), List.mem_of_getElem? (i := 946) (by decide +kernel), List.mem_of_getElem? (i := 947) (by decide +kernel)⟩
theorem lw_p35 : lw_okq (⟨"GuardNet", "spell", "(LGuardNet$Node;I)V"⟩, 5) := ⟨⟨by decide +kernel, by decide +kernel⟩, List.mem_of_getElem? (i := 37) (by decide +kernel), List.mem_of_getElem? (i := 1226) (by decide +kernel), List.mem_of_getElem? (i := 1227) (by decide +kernel)⟩
theorem lw_p36 : lw_okq (⟨"GuardNetModel", "bad", "(Z)Z"⟩, 47) := ⟨⟨by decide +kernel, by decide +kernel⟩, List.mem_of_getElem? (i := 1275) (by decide +kernel), List.mem_of_getElem? (i := 1437) (by decide +kernel), List.mem_of_getElem? (i := 1438) (by decide +kernel)⟩
theorem lw_p37 : lw_okq (⟨"GuardNetModel", "fail", "(I)I"⟩, 47) := ⟨⟨by decide +kernel, by decide +kernel⟩, List.mem_of_getElem? (i := 1275) (by decide +kernel), List.mem_of_getElem? (i := 1441) (by decide +kernel), List.mem_of_getElem? (i := 1442) (by decide +kernel)⟩
theorem lw_p38 : lw_okq (⟨"GuardNetModel", "readClause", "()Z"⟩, 47) := ⟨⟨by decide +kernel, by decide +kernel⟩, List.mem_of_getElem? (i := 1275) (by decide +kernel), List.mem_of_getElem? (i := 1449) (by decide +kernel), List.mem_of_getElem? (i := 1450) (by decide +kernel)⟩
theorem lw_p39 : lw_okq (⟨"GuardNetModel", "readTerm", "(Z)Z"⟩, 47) := ⟨⟨by decide +kernel, by decide +kernel⟩, List.mem_of_getElem? (i := 1275) (by decide +kernel), List.mem_of_getElem? (i := 1453) (by decide +kernel), List.mem_of_getElem? (i := 1454) (by decide +kernel)⟩
theorem lw_p40 : lw_okq (⟨"GuardNetModel", "look", "()I"⟩, 47) := ⟨⟨by decide +kernel, by decide +kernel⟩, List.mem_of_getElem? (i := 1275) (by decide +kernel), List.mem_of_getElem? (i := 1457) (by decide +kernel), List.mem_of_getElem? (i := 1458) (by decide +kernel)⟩
theorem lw_p41 : lw_okq (⟨"GuardNetModel", "passes", "(I)Z"⟩, 47) := ⟨⟨by decide +kernel, by decide +kernel⟩, List.mem_of_getElem? (i := 1275) (by decide +kernel), List.mem_of_getElem? (i := 1461) (by decide +kernel), List.mem_of_getElem? (i := 1462) (by decide +kernel)⟩
theorem lw_p42 : lw_okq (⟨"GuardNetModel", "readGoals", "()Z"⟩, 47) := ⟨⟨by decide +kernel, by decide +kernel⟩, List.mem_of_getElem? (i := 1275) (by decide +kernel), List.mem_of_getElem? (i := 1465) (by decide +kernel), List.mem_of_getElem? (i := 1466) (by decide +kernel)⟩
theorem lw_p43 : lw_okq (⟨"GuardNetModel", "bear", "(I)V"⟩, 47) := ⟨⟨by decide +kernel, by decide +kernel⟩, List.mem_of_getElem? (i := 1275) (by decide +kernel), List.mem_of_getElem? (i := 1478) (by decide +kernel), List.mem_of_getElem? (i := 1479) (by decide +kernel)⟩
theorem lw_p44 : lw_okq (⟨"GuardNetModel", "buildGoals", "(I)I"⟩, 47) := ⟨⟨by decide +kernel, by decide +kernel⟩, List.mem_of_getElem? (i := 1275) (by decide +kernel), List.mem_of_getElem? (i := 1482) (by decide +kernel), List.mem_of_getElem? (i := 1483) (by decide +kernel)⟩
theorem lw_p45 : lw_okq (⟨"GuardNetModel", "build", "()I"⟩, 47) := ⟨⟨by decide +kernel, by decide +kernel⟩, List.mem_of_getElem? (i := 1275) (by decide +kernel), List.mem_of_getElem? (i := 1486) (by decide +kernel), List.mem_of_getElem? (i := 1487) (by decide +kernel)⟩
theorem lw_p46 : lw_okq (⟨"GuardNetModel", "at", "(I)I"⟩, 47) := ⟨⟨by decide +kernel, by decide +kernel⟩, List.mem_of_getElem? (i := 1275) (by decide +kernel), List.mem_of_getElem? (i := 1490) (by decide +kernel), List.mem_of_getElem? (i := 1491) (by decide +kernel)⟩
theorem lw_p47 : lw_okq (⟨"GuardNetModel", "leaf", "()I"⟩, 47) := ⟨⟨by decide +kernel, by decide +kernel⟩, List.mem_of_getElem? (i := 1275) (by decide +kernel), List.mem_of_getElem? (i := 1494) (by decide +kernel), List.mem_of_getElem? (i := 1495) (by decide +kernel)⟩
def lw_privs_3 : List (MethodName × Nat) := [(⟨"GuardNet$Network", "join", "(LGuardNet$Node;LGuardNet$Node;)V"⟩, 8), (⟨"GuardNet$Network", "wake", "(LGuardNet$Node;)V"⟩, 8), (⟨"GuardNet$Network", "reckon", "(LGuardNet$Goal;)I"⟩, 8), (⟨"GuardNet", "spell", "(LGuardNet$Node;I)V"⟩, 5), (⟨"GuardNetModel", "bad", "(Z)Z"⟩, 47), (⟨"GuardNetModel", "fail", "(I)I"⟩, 47), (⟨"GuardNetModel", "readClause", "()Z"⟩, 47), (⟨"GuardNetModel", "readTerm", "(Z)Z"⟩, 47), (⟨"GuardNetModel", "look", "()I"⟩, 47), (⟨"GuardNetModel", "passes", "(I)Z"⟩, 47), (⟨"GuardNetModel", "readGoals", "()Z"⟩, 47), (⟨"GuardNetModel", "bear", "(I)V"⟩, 47), (⟨"GuardNetModel", "buildGoals", "(I)I"⟩, 47), (⟨"GuardNetModel", "build", "()I"⟩, 47), (⟨"GuardNetModel", "at", "(I)I"⟩, 47), (⟨"GuardNetModel", "leaf", "()I"⟩, 47)]
theorem lw_r3 : ∀ q ∈ lw_privs_3, lw_okq q := List.forall_mem_cons.mpr ⟨lw_p32, List.forall_mem_cons.mpr ⟨lw_p33, List.forall_mem_cons.mpr ⟨lw_p34, List.forall_mem_cons.mpr ⟨lw_p35, List.forall_mem_cons.mpr ⟨lw_p36, List.forall_mem_cons.mpr ⟨lw_p37, List.forall_mem_cons.mpr ⟨lw_p38, List.forall_mem_cons.mpr ⟨lw_p39, List.forall_mem_cons.mpr ⟨lw_p40, List.forall_mem_cons.mpr ⟨lw_p41, List.forall_mem_cons.mpr ⟨lw_p42, List.forall_mem_cons.mpr ⟨lw_p43, List.forall_mem_cons.mpr ⟨lw_p44, List.forall_mem_cons.mpr ⟨lw_p45, List.forall_mem_cons.mpr ⟨lw_p46, List.forall_mem_cons.mpr ⟨lw_p47, fun _ h => absurd h List.not_mem_nil⟩⟩⟩⟩⟩⟩⟩⟩⟩⟩⟩⟩⟩⟩⟩⟩
theorem lw_p48 : lw_okq (⟨"GuardNetModel", "cell", "(I)I"⟩, 47) := ⟨⟨by decide +kernel, by decide +kernel⟩, List.mem_of_getElem? (i := 1275) (by decide +kernel), List.mem_of_getElem? (i := 1498) (by decide +kernel), List.mem_of_getElem? (i := 1499) (by decide +kernel)⟩
theorem lw_p49 : lw_okq (⟨"GuardNetModel", "number", "(I)I"⟩, 47) := ⟨⟨by decide +kernel, by decide +kernel⟩, List.mem_of_getElem? (i := 1275) (by decide +kernel), List.mem_of_getElem? (i := 1502) (by decide +kernel), List.mem_of_getElem? (i := 1503) (by decide +kernel)⟩
theorem lw_p50 : lw_okq (⟨"GuardNetModel", "hang", "(II)V"⟩, 47) := ⟨⟨by decide +kernel, by decide +kernel⟩, List.mem_of_getElem? (i := 1275) (by decide +kernel), List.mem_of_getElem? (i := 1506) (by decide +kernel), List.mem_of_getElem? (i := 1507) (by decide +kernel)⟩
theorem lw_p51 : lw_okq (⟨"GuardNetModel", "put", "(IIIIII)V"⟩, 47) := ⟨⟨by decide +kernel, by decide +kernel⟩, List.mem_of_getElem? (i := 1275) (by decide +kernel), List.mem_of_getElem? (i := 1510) (by decide +kernel), List.mem_of_getElem? (i := 1511) (by decide +kernel)⟩
theorem lw_p52 : lw_okq (⟨"GuardNetModel", "inRows", "()I"⟩, 47) := ⟨⟨by decide +kernel, by decide +kernel⟩, List.mem_of_getElem? (i := 1275) (by decide +kernel), List.mem_of_getElem? (i := 1514) (by decide +kernel), List.mem_of_getElem? (i := 1515) (by decide +kernel)⟩
theorem lw_p53 : lw_okq (⟨"GuardNetModel", "enter", "(I)V"⟩, 47) := ⟨⟨by decide +kernel, by decide +kernel⟩, List.mem_of_getElem? (i := 1275) (by decide +kernel), List.mem_of_getElem? (i := 1518) (by decide +kernel), List.mem_of_getElem? (i := 1519) (by decide +kernel)⟩
theorem lw_p54 : lw_okq (⟨"GuardNetModel", "step", "()V"⟩, 47) := ⟨⟨by decide +kernel, by decide +kernel⟩, List.mem_of_getElem? (i := 1275) (by decide +kernel), List.mem_of_getElem? (i := 1526) (by decide +kernel), List.mem_of_getElem? (i := 1527) (by decide +kernel)⟩
theorem lw_p55 : lw_okq (⟨"GuardNetModel", "call", "(I)V"⟩, 47) := ⟨⟨by decide +kernel, by decide +kernel⟩, List.mem_of_getElem? (i := 1275) (by decide +kernel), List.mem_of_getElem? (i := 1530) (by decide +kernel), List.mem_of_getElem? (i := 1531) (by decide +kernel)⟩
theorem lw_p56 : lw_okq (⟨"GuardNetModel", "value", "(I)I"⟩, 47) := ⟨⟨by decide +kernel, by decide +kernel⟩, List.mem_of_getElem? (i := 1275) (by decide +kernel), List.mem_of_getElem? (i := 1534) (by decide +kernel), List.mem_of_getElem? (i := 1535) (by decide +kernel)⟩
theorem lw_p57 : lw_okq (⟨"GuardNetModel", "fits", "(II)Z"⟩, 47) := ⟨⟨by decide +kernel, by decide +kernel⟩, List.mem_of_getElem? (i := 1275) (by decide +kernel), List.mem_of_getElem? (i := 1538) (by decide +kernel), List.mem_of_getElem? (i := 1539) (by decide +kernel)⟩
theorem lw_p58 : lw_okq (⟨"GuardNetModel", "tried", "(II)I"⟩, 47) := ⟨⟨by decide +kernel, by decide +kernel⟩, List.mem_of_getElem? (i := 1275) (by decide +kernel), List.mem_of_getElem? (i := 1542) (by decide +kernel), List.mem_of_getElem? (i := 1543) (by decide +kernel)⟩
theorem lw_p59 : lw_okq (⟨"GuardNetModel", "match", "(I)I"⟩, 47) := ⟨⟨by decide +kernel, by decide +kernel⟩, List.mem_of_getElem? (i := 1275) (by decide +kernel), List.mem_of_getElem? (i := 1546) (by decide +kernel), List.mem_of_getElem? (i := 1547) (by decide +kernel)⟩
theorem lw_p60 : lw_okq (⟨"GuardNetModel", "matchOne", "(I)I"⟩, 47) := ⟨⟨by decide +kernel, by decide +kernel⟩, List.mem_of_getElem? (i := 1275) (by decide +kernel), List.mem_of_getElem? (i := 1550) (by decide +kernel), List.mem_of_getElem? (i := 1551) (by decide +kernel)⟩
theorem lw_p61 : lw_okq (⟨"GuardNetModel", "alike", "(II)I"⟩, 47) := ⟨⟨by decide +kernel, by decide +kernel⟩, List.mem_of_getElem? (i := 1275) (by decide +kernel), List.mem_of_getElem? (i := 1554) (by decide +kernel), List.mem_of_getElem? (i := 1555) (by decide +kernel)⟩
theorem lw_p62 : lw_okq (⟨"GuardNetModel", "pair", "(II)V"⟩, 47) := ⟨⟨by decide +kernel, by decide +kernel⟩, List.mem_of_getElem? (i := 1275) (by decide +kernel), List.mem_of_getElem? (i := 1558) (by decide +kernel), List.mem_of_getElem? (i := 1559) (by decide +kernel)⟩
theorem lw_p63 : lw_okq (⟨"GuardNetModel", "open", "(II)Z"⟩, 47) := ⟨⟨by decide +kernel, by decide +kernel⟩, List.mem_of_getElem? (i := 1275) (by decide +kernel), List.mem_of_getElem? (i := 1563) (by decide +kernel), List.mem_of_getElem? (i := 1564) (by decide +kernel)⟩
def lw_privs_4 : List (MethodName × Nat) := [(⟨"GuardNetModel", "cell", "(I)I"⟩, 47), (⟨"GuardNetModel", "number", "(I)I"⟩, 47), (⟨"GuardNetModel", "hang", "(II)V"⟩, 47), (⟨"GuardNetModel", "put", "(IIIIII)V"⟩, 47), (⟨"GuardNetModel", "inRows", "()I"⟩, 47), (⟨"GuardNetModel", "enter", "(I)V"⟩, 47), (⟨"GuardNetModel", "step", "()V"⟩, 47), (⟨"GuardNetModel", "call", "(I)V"⟩, 47), (⟨"GuardNetModel", "value", "(I)I"⟩, 47), (⟨"GuardNetModel", "fits", "(II)Z"⟩, 47), (⟨"GuardNetModel", "tried", "(II)I"⟩, 47), (⟨"GuardNetModel", "match", "(I)I"⟩, 47), (⟨"GuardNetModel", "matchOne", "(I)I"⟩, 47), (⟨"GuardNetModel", "alike", "(II)I"⟩, 47), (⟨"GuardNetModel", "pair", "(II)V"⟩, 47), (⟨"GuardNetModel", "open", "(II)Z"⟩, 47)]
theorem lw_r4 : ∀ q ∈ lw_privs_4, lw_okq q := List.forall_mem_cons.mpr ⟨lw_p48, List.forall_mem_cons.mpr ⟨lw_p49, List.forall_mem_cons.mpr ⟨lw_p50, List.forall_mem_cons.mpr ⟨lw_p51, List.forall_mem_cons.mpr ⟨lw_p52, List.forall_mem_cons.mpr ⟨lw_p53, List.forall_mem_cons.mpr ⟨lw_p54, List.forall_mem_cons.mpr ⟨lw_p55, List.forall_mem_cons.mpr ⟨lw_p56, List.forall_mem_cons.mpr ⟨lw_p57, List.forall_mem_cons.mpr ⟨lw_p58, List.forall_mem_cons.mpr ⟨lw_p59, List.forall_mem_cons.mpr ⟨lw_p60, List.forall_mem_cons.mpr ⟨lw_p61, List.forall_mem_cons.mpr ⟨lw_p62, List.forall_mem_cons.mpr ⟨lw_p63, fun _ h => absurd h List.not_mem_nil⟩⟩⟩⟩⟩⟩⟩⟩⟩⟩⟩⟩⟩⟩⟩⟩
theorem lw_p64 : lw_okq (⟨"GuardNetModel", "isNumber", "(I)Z"⟩, 47) := ⟨⟨by decide +kernel, by decide +kernel⟩, List.mem_of_getElem? (i := 1275) (by decide +kernel), List.mem_of_getElem? (i := 1567) (by decide +kernel), List.mem_of_getElem? (i := 1568) (by decide +kernel)⟩
theorem lw_p65 : lw_okq (⟨"GuardNetModel", "arity", "(I)I"⟩, 47) := ⟨⟨by decide +kernel, by decide +kernel⟩, List.mem_of_getElem? (i := 1275) (by decide +kernel), List.mem_of_getElem? (i := 1571) (by decide +kernel), List.mem_of_getElem? (i := 1572) (by decide +kernel)⟩
theorem lw_p66 : lw_okq (⟨"GuardNetModel", "guard", "()I"⟩, 47) := ⟨⟨by decide +kernel, by decide +kernel⟩, List.mem_of_getElem? (i := 1275) (by decide +kernel), List.mem_of_getElem? (i := 1575) (by decide +kernel), List.mem_of_getElem? (i := 1576) (by decide +kernel)⟩
theorem lw_p67 : lw_okq (⟨"GuardNetModel", "unmet", "()Z"⟩, 47) := ⟨⟨by decide +kernel, by decide +kernel⟩, List.mem_of_getElem? (i := 1275) (by decide +kernel), List.mem_of_getElem? (i := 1579) (by decide +kernel), List.mem_of_getElem? (i := 1580) (by decide +kernel)⟩
theorem lw_p68 : lw_okq (⟨"GuardNetModel", "find", "(I)V"⟩, 47) := ⟨⟨by decide +kernel, by decide +kernel⟩, List.mem_of_getElem? (i := 1275) (by decide +kernel), List.mem_of_getElem? (i := 1583) (by decide +kernel), List.mem_of_getElem? (i := 1584) (by decide +kernel)⟩
theorem lw_p69 : lw_okq (⟨"GuardNetModel", "sleep", "(I)V"⟩, 47) := ⟨⟨by decide +kernel, by decide +kernel⟩, List.mem_of_getElem? (i := 1275) (by decide +kernel), List.mem_of_getElem? (i := 1587) (by decide +kernel), List.mem_of_getElem? (i := 1588) (by decide +kernel)⟩
theorem lw_p70 : lw_okq (⟨"GuardNetModel", "reckon", "(I)V"⟩, 47) := ⟨⟨by decide +kernel, by decide +kernel⟩, List.mem_of_getElem? (i := 1275) (by decide +kernel), List.mem_of_getElem? (i := 1591) (by decide +kernel), List.mem_of_getElem? (i := 1592) (by decide +kernel)⟩
theorem lw_p71 : lw_okq (⟨"GuardNetModel", "same", "(II)I"⟩, 47) := ⟨⟨by decide +kernel, by decide +kernel⟩, List.mem_of_getElem? (i := 1275) (by decide +kernel), List.mem_of_getElem? (i := 1595) (by decide +kernel), List.mem_of_getElem? (i := 1596) (by decide +kernel)⟩
theorem lw_p72 : lw_okq (⟨"GuardNetModel", "write", "(II)V"⟩, 47) := ⟨⟨by decide +kernel, by decide +kernel⟩, List.mem_of_getElem? (i := 1275) (by decide +kernel), List.mem_of_getElem? (i := 1599) (by decide +kernel), List.mem_of_getElem? (i := 1600) (by decide +kernel)⟩
theorem lw_p73 : lw_okq (⟨"GuardNetModel", "sleepsOn", "(II)Z"⟩, 47) := ⟨⟨by decide +kernel, by decide +kernel⟩, List.mem_of_getElem? (i := 1275) (by decide +kernel), List.mem_of_getElem? (i := 1603) (by decide +kernel), List.mem_of_getElem? (i := 1604) (by decide +kernel)⟩
theorem lw_p74 : lw_okq (⟨"GuardNetModel", "writeTerm", "(I)V"⟩, 47) := ⟨⟨by decide +kernel, by decide +kernel⟩, List.mem_of_getElem? (i := 1275) (by decide +kernel), List.mem_of_getElem? (i := 1611) (by decide +kernel), List.mem_of_getElem? (i := 1612) (by decide +kernel)⟩
theorem lw_p75 : lw_okq (⟨"GuardNetModel", "write", "(I)V"⟩, 47) := ⟨⟨by decide +kernel, by decide +kernel⟩, List.mem_of_getElem? (i := 1275) (by decide +kernel), List.mem_of_getElem? (i := 1616) (by decide +kernel), List.mem_of_getElem? (i := 1617) (by decide +kernel)⟩
theorem lw_p76 : lw_okq (⟨"GuardNetModel", "writeNumber", "(I)V"⟩, 47) := ⟨⟨by decide +kernel, by decide +kernel⟩, List.mem_of_getElem? (i := 1275) (by decide +kernel), List.mem_of_getElem? (i := 1620) (by decide +kernel), List.mem_of_getElem? (i := 1621) (by decide +kernel)⟩
def lw_privs_5 : List (MethodName × Nat) := [(⟨"GuardNetModel", "isNumber", "(I)Z"⟩, 47), (⟨"GuardNetModel", "arity", "(I)I"⟩, 47), (⟨"GuardNetModel", "guard", "()I"⟩, 47), (⟨"GuardNetModel", "unmet", "()Z"⟩, 47), (⟨"GuardNetModel", "find", "(I)V"⟩, 47), (⟨"GuardNetModel", "sleep", "(I)V"⟩, 47), (⟨"GuardNetModel", "reckon", "(I)V"⟩, 47), (⟨"GuardNetModel", "same", "(II)I"⟩, 47), (⟨"GuardNetModel", "write", "(II)V"⟩, 47), (⟨"GuardNetModel", "sleepsOn", "(II)Z"⟩, 47), (⟨"GuardNetModel", "writeTerm", "(I)V"⟩, 47), (⟨"GuardNetModel", "write", "(I)V"⟩, 47), (⟨"GuardNetModel", "writeNumber", "(I)V"⟩, 47)]
theorem lw_r5 : ∀ q ∈ lw_privs_5, lw_okq q := List.forall_mem_cons.mpr ⟨lw_p64, List.forall_mem_cons.mpr ⟨lw_p65, List.forall_mem_cons.mpr ⟨lw_p66, List.forall_mem_cons.mpr ⟨lw_p67, List.forall_mem_cons.mpr ⟨lw_p68, List.forall_mem_cons.mpr ⟨lw_p69, List.forall_mem_cons.mpr ⟨lw_p70, List.forall_mem_cons.mpr ⟨lw_p71, List.forall_mem_cons.mpr ⟨lw_p72, List.forall_mem_cons.mpr ⟨lw_p73, List.forall_mem_cons.mpr ⟨lw_p74, List.forall_mem_cons.mpr ⟨lw_p75, List.forall_mem_cons.mpr ⟨lw_p76, fun _ h => absurd h List.not_mem_nil⟩⟩⟩⟩⟩⟩⟩⟩⟩⟩⟩⟩⟩
def lw_privs : List (MethodName × Nat) := lw_privs_1 ++ (lw_privs_2 ++ (lw_privs_3 ++ (lw_privs_4 ++ (lw_privs_5))))
def lw_tbl : List Cond := k2_sels lw_privs ++ tables_1
theorem lw_privs_ok : ∀ q ∈ lw_privs, lw_okq q := by
  show ∀ q ∈ lw_privs_1 ++ (lw_privs_2 ++ (lw_privs_3 ++ (lw_privs_4 ++ (lw_privs_5)))), lw_okq q
  exact List.forall_mem_append.mpr ⟨lw_r1, List.forall_mem_append.mpr ⟨lw_r2, List.forall_mem_append.mpr ⟨lw_r3, List.forall_mem_append.mpr ⟨lw_r4, lw_r5⟩⟩⟩⟩
end
section
/-! THE ABSTRACT MACHINE sx: a frame is (pc, locals, stack); its references are places of an abstract heap, 'sx_up ua' turns them into addresses. This part: the instructions that touch no heap -/
abbrev sx_F : Type := Nat × List (Nat × Value) × List Value
def sx_up (ua : Nat → Nat) (v : Value) : Value := match v with
  | .ref k => .ref (ua k)
  | v => v
def sx_upL (ua : Nat → Nat) (l : List (Nat × Value)) : List (Nat × Value) := l.map (fun q => (q.1, sx_up ua q.2))
def sx_upS (ua : Nat → Nat) (st : List Value) : List Value := st.map (sx_up ua)
def sx_lk (l : List (Nat × Value)) (i : Nat) : Option Value := match l with
  | [] => none
  | q :: r => if q.1 = i then some q.2 else sx_lk r i
def sx_s1 (l : List (Nat × Value)) (i : Nat) (v : Value) : List (Nat × Value) := (i, v) :: l.filter (fun q => !(q.1 == i) && !(q.1 + 1 == i && q.2.category == 2))
def sx_s2 (l : List (Nat × Value)) (i : Nat) (v : Value) : List (Nat × Value) := (i, v) :: l.filter (fun q => !(q.1 == i) && (!(q.1 == i + 1) && !(q.1 + 1 == i && q.2.category == 2)))
def sx_ldI (pc n : Nat) (l : List (Nat × Value)) (st : List Value) (i : Nat) : Option sx_F := match sx_lk l i with
  | some (.int x) => some (pc + n, l, .int x :: st)
  | _ => none
def sx_ldL (pc n : Nat) (l : List (Nat × Value)) (st : List Value) (i : Nat) : Option sx_F := match sx_lk l i with
  | some (.long x) => some (pc + n, l, .long x :: st)
  | _ => none
def sx_ldA (pc n : Nat) (l : List (Nat × Value)) (st : List Value) (i : Nat) : Option sx_F := match sx_lk l i with
  | some (.ref a) => some (pc + n, l, .ref a :: st)
  | some .null => some (pc + n, l, .null :: st)
  | _ => none
def sx_svI (pc n nL : Nat) (l : List (Nat × Value)) (st : List Value) (i : Nat) : Option sx_F := match st with
  | .int x :: r => if i < nL then some (pc + n, sx_s1 l i (.int x), r) else none
  | _ => none
def sx_svL (pc n nL : Nat) (l : List (Nat × Value)) (st : List Value) (i : Nat) : Option sx_F := match st with
  | .long x :: r => if i + 1 < nL then some (pc + n, sx_s2 l i (.long x), r) else none
  | _ => none
def sx_svA (pc n nL : Nat) (l : List (Nat × Value)) (st : List Value) (i : Nat) : Option sx_F := match st with
  | .ref a :: r => if i < nL then some (pc + n, sx_s1 l i (.ref a), r) else none
  | .null :: r => if i < nL then some (pc + n, sx_s1 l i .null, r) else none
  | _ => none
def sx_inc (pc nL : Nat) (l : List (Nat × Value)) (st : List Value) (i : Nat) (n : Int) : Option sx_F := match sx_lk l i with
  | some (.int x) => if i < nL then some (pc + 3, sx_s1 l i (.int (x + Int32.ofInt n)), st) else none
  | _ => none
def sx_jp (pc : Nat) (off : Int) (l : List (Nat × Value)) (st : List Value) : Option sx_F :=
  if 0 ≤ (pc : Int) + off then some (((pc : Int) + off).toNat, l, st) else none
def sx_i1 (pc : Nat) (l : List (Nat × Value)) (st : List Value) (f : Int32 → Value) : Option sx_F := match st with
  | .int x :: r => some (pc + 1, l, f x :: r)
  | _ => none
def sx_l1 (pc : Nat) (l : List (Nat × Value)) (st : List Value) (f : Int64 → Value) : Option sx_F := match st with
  | .long x :: r => some (pc + 1, l, f x :: r)
  | _ => none
def sx_i2 (pc : Nat) (l : List (Nat × Value)) (st : List Value) (f : Int32 → Int32 → Value) : Option sx_F := match st with
  | .int y :: .int x :: r => some (pc + 1, l, f x y :: r)
  | _ => none
def sx_l2 (pc : Nat) (l : List (Nat × Value)) (st : List Value) (f : Int64 → Int64 → Value) : Option sx_F := match st with
  | .long y :: .long x :: r => some (pc + 1, l, f x y :: r)
  | _ => none
def sx_li (pc : Nat) (l : List (Nat × Value)) (st : List Value) (f : Int64 → Int32 → Value) : Option sx_F := match st with
  | .int y :: .long x :: r => some (pc + 1, l, f x y :: r)
  | _ => none
def sx_bb (pc : Nat) (off : Int) (l : List (Nat × Value)) (r : List Value) (b : Bool) : Option sx_F :=
  if 0 ≤ (pc : Int) + off then (if b = true then some (((pc : Int) + off).toNat, l, r) else some (pc + 3, l, r)) else none
def sx_b1 (pc : Nat) (off : Int) (l : List (Nat × Value)) (st : List Value) (f : Int32 → Bool) : Option sx_F := match st with
  | .int x :: r => sx_bb pc off l r (f x)
  | _ => none
def sx_b2 (pc : Nat) (off : Int) (l : List (Nat × Value)) (st : List Value) (f : Int32 → Int32 → Bool) : Option sx_F := match st with
  | .int y :: .int x :: r => sx_bb pc off l r (f x y)
  | _ => none
def sx_op (v : Value) : Option (Option Nat) := match v with
  | .ref a => some (some a)
  | .null => some none
  | _ => none
def sx_b0 (pc : Nat) (off : Int) (l : List (Nat × Value)) (st : List Value) (eq : Bool) : Option sx_F := match st with
  | v :: w :: r => match sx_op v, sx_op w with
    | some y, some x => sx_bb pc off l r (decide (x = y) == eq)
    | _, _ => none
  | _ => none
def sx_bn (pc : Nat) (off : Int) (l : List (Nat × Value)) (st : List Value) (onNull : Bool) : Option sx_F := match st with
  | .ref _ :: r => sx_bb pc off l r (!onNull)
  | .null :: r => sx_bb pc off l r onNull
  | _ => none
def sx_lc (x y : Int64) : Value := .int (lg_cmp x y)
def sx_sw (pc : Nat) (l : List (Nat × Value)) (st : List Value) (d lo hi : Int) (offs : Array Int) : Option sx_F := match st with
  | .int x :: r => if x.toInt < lo ∨ hi < x.toInt then sx_jp pc d l r else (match offs[(x.toInt - lo).toNat]? with
    | some o => sx_jp pc o l r
    | none => none)
  | _ => none

/-- one instruction -/
def sx_pure (nL : Nat) (i : Instr) (len pc : Nat) (l : List (Nat × Value)) (st : List Value) : Option sx_F := match i with
  | .iconst n => if len = 1 then some (pc + 1, l, .int (Int32.ofInt n) :: st) else none
  | .bipush n => if len = 2 then some (pc + 2, l, .int (Int8.ofInt n).toInt32 :: st) else none
  | .sipush n => if len = 3 then some (pc + 3, l, .int (Int16.ofInt n).toInt32 :: st) else none
  | .lconst n => if len = 1 then some (pc + 1, l, .long (Int64.ofNat (n : Nat)) :: st) else none
  | .aconst_null => if len = 1 then some (pc + 1, l, .null :: st) else none
  | .iload_n n => if len = 1 then sx_ldI pc 1 l st n else none
  | .iload n => if len = 2 then sx_ldI pc 2 l st n else none
  | .lload_n n => if len = 1 then sx_ldL pc 1 l st n else none
  | .lload n => if len = 2 then sx_ldL pc 2 l st n else none
  | .aload_n n => if len = 1 then sx_ldA pc 1 l st n else none
  | .aload n => if len = 2 then sx_ldA pc 2 l st n else none
  | .istore_n n => if len = 1 then sx_svI pc 1 nL l st n else none
  | .istore n => if len = 2 then sx_svI pc 2 nL l st n else none
  | .lstore_n n => if len = 1 then sx_svL pc 1 nL l st n else none
  | .lstore n => if len = 2 then sx_svL pc 2 nL l st n else none
  | .astore_n n => if len = 1 then sx_svA pc 1 nL l st n else none
  | .astore n => if len = 2 then sx_svA pc 2 nL l st n else none
  | .iinc n k => if len = 3 then sx_inc pc nL l st n k else none
  | .pop => if len = 1 then (match st with
    | v :: r => if v.category = 1 then some (pc + 1, l, r) else none
    | [] => none) else none
  | .dup => if len = 1 then (match st with
    | v :: r => if v.category = 1 then some (pc + 1, l, v :: v :: r) else none
    | [] => none) else none
  | .dup_x1 => if len = 1 then (match st with
    | v :: w :: r => if v.category = 1 ∧ w.category = 1 then some (pc + 1, l, v :: w :: v :: r) else none
    | _ => none) else none
  | .dup2 => if len = 1 then (match st with
    | v :: w :: r => if v.category = 1 ∧ w.category = 1 then some (pc + 1, l, v :: w :: v :: w :: r) else none
    | _ => none) else none
  | .l2i => if len = 1 then sx_l1 pc l st (fun x => .int x.toInt32) else none
  | .lcmp => if len = 1 then sx_l2 pc l st sx_lc else none
  | .goto off => if len = 3 then sx_jp pc off l st else none
  | .if_acmp .eq off => if len = 3 then sx_b0 pc off l st true else none
  | .if_acmp .ne off => if len = 3 then sx_b0 pc off l st false else none
  | .ifnull off => if len = 3 then sx_bn pc off l st true else none
  | .ifnonnull off => if len = 3 then sx_bn pc off l st false else none
  | .tableswitch d lo hi offs => sx_sw pc l st d lo hi offs
  | .iadd => if len = 1 then sx_i2 pc l st (fun x y => .int (x + y)) else none
  | .isub => if len = 1 then sx_i2 pc l st (fun x y => .int (x - y)) else none
  | .imul => if len = 1 then sx_i2 pc l st (fun x y => .int (x * y)) else none
  | .iand => if len = 1 then sx_i2 pc l st (fun x y => .int (x &&& y)) else none
  | .ior => if len = 1 then sx_i2 pc l st (fun x y => .int (x ||| y)) else none
  | .ixor => if len = 1 then sx_i2 pc l st (fun x y => .int (x ^^^ y)) else none
  | .ishl => if len = 1 then sx_i2 pc l st (fun x y => .int (x <<< (y &&& 31))) else none
  | .ishr => if len = 1 then sx_i2 pc l st (fun x y => .int (x >>> (y &&& 31))) else none
  | .iushr => if len = 1 then sx_i2 pc l st (fun x y => .int ((x.toUInt32 >>> (y.toUInt32 &&& Int32.toUInt32 31)).toInt32)) else none
  | .ladd => if len = 1 then sx_l2 pc l st (fun x y => .long (x + y)) else none
  | .lsub => if len = 1 then sx_l2 pc l st (fun x y => .long (x - y)) else none
  | .lmul => if len = 1 then sx_l2 pc l st (fun x y => .long (x * y)) else none
  | .land => if len = 1 then sx_l2 pc l st (fun x y => .long (x &&& y)) else none
  | .lor => if len = 1 then sx_l2 pc l st (fun x y => .long (x ||| y)) else none
  | .lxor => if len = 1 then sx_l2 pc l st (fun x y => .long (x ^^^ y)) else none
  | .lushr => if len = 1 then sx_li pc l st (fun x y => .long ((x.toUInt64 >>> (y.toInt64.toUInt64 &&& Int64.toUInt64 63)).toInt64)) else none
  | .lshl => if len = 1 then sx_li pc l st (fun x y => .long (x <<< (y.toInt64 &&& 63))) else none
  | .lshr => if len = 1 then sx_li pc l st (fun x y => .long (x >>> (y.toInt64 &&& 63))) else none
  | .i2l => if len = 1 then sx_i1 pc l st (fun x => .long x.toInt64) else none
  | .i2b => if len = 1 then sx_i1 pc l st (fun x => .int x.toInt8.toInt32) else none
  | .i2s => if len = 1 then sx_i1 pc l st (fun x => .int x.toInt16.toInt32) else none
  | .i2c => if len = 1 then sx_i1 pc l st (fun x => .int (x.toUInt32 % 65536).toInt32) else none
  | .ineg => if len = 1 then sx_i1 pc l st (fun x => .int (-x)) else none
  | .ifCond .eq off => if len = 3 then sx_b1 pc off l st (fun x => decide (x = 0)) else none
  | .ifCond .ne off => if len = 3 then sx_b1 pc off l st (fun x => decide (¬ x = 0)) else none
  | .ifCond .lt off => if len = 3 then sx_b1 pc off l st (fun x => decide (x < 0)) else none
  | .ifCond .ge off => if len = 3 then sx_b1 pc off l st (fun x => decide (0 ≤ x)) else none
  | .ifCond .gt off => if len = 3 then sx_b1 pc off l st (fun x => decide (0 < x)) else none
  | .ifCond .le off => if len = 3 then sx_b1 pc off l st (fun x => decide (x ≤ 0)) else none
  | .if_icmp .eq off => if len = 3 then sx_b2 pc off l st (fun x y => decide (x = y)) else none
  | .if_icmp .ne off => if len = 3 then sx_b2 pc off l st (fun x y => decide (¬ x = y)) else none
  | .if_icmp .lt off => if len = 3 then sx_b2 pc off l st (fun x y => decide (x < y)) else none
  | .if_icmp .ge off => if len = 3 then sx_b2 pc off l st (fun x y => decide (y ≤ x)) else none
  | .if_icmp .gt off => if len = 3 then sx_b2 pc off l st (fun x y => decide (y < x)) else none
  | .if_icmp .le off => if len = 3 then sx_b2 pc off l st (fun x y => decide (x ≤ y)) else none
  | _ => none
theorem sx_cat (ua : Nat → Nat) (v : Value) : (sx_up ua v).category = v.category := by cases v <;> rfl
theorem sx_lk_mem {l : List (Nat × Value)} {i : Nat} {v : Value} (h : sx_lk l i = some v) : (i, v) ∈ l := by
  induction l with
  | nil => simp [sx_lk] at h
  | cons q r ih =>
    unfold sx_lk at h
    by_cases hq : q.1 = i
    · rw [if_pos hq] at h
      cases h
      subst hq
      exact List.mem_cons_self
    · rw [if_neg hq] at h
      exact List.mem_cons_of_mem _ (ih h)
theorem sx_at {ua : Nat → Nat} {ls : Array Slot} {nL : Nat} {l : List (Nat × Value)} (hl : lv_has ls nL (sx_upL ua l)) {i : Nat} {v : Value} (h : sx_lk l i = some v) : ls[i]? = some (.val (sx_up ua v)) :=
  hl.2.2 (i, sx_up ua v) (List.mem_map.mpr ⟨(i, v), sx_lk_mem h, rfl⟩)
theorem sx_at' {ua : Nat → Nat} {l : List (Nat × Value)} {i : Nat} {v : Value} (h : sx_lk l i = some v) : ∃ k : Nat, (sx_upL ua l)[k]? = some (i, sx_up ua v) :=
  List.getElem?_of_mem (List.mem_map.mpr ⟨(i, v), sx_lk_mem h, rfl⟩)
theorem sx_up_s1 (ua : Nat → Nat) (l : List (Nat × Value)) (i : Nat) (v : Value) : (i, sx_up ua v) :: (sx_upL ua l).filter (fun q => !(q.1 == i) && !(q.1 + 1 == i && q.2.category == 2)) = sx_upL ua (sx_s1 l i v) := by
  simp only [sx_upL, sx_s1, List.map_cons, List.filter_map]
  congr 2
  refine List.filter_congr (fun q _ => ?_)
  simp [Function.comp, sx_cat]
theorem sx_up_s2 (ua : Nat → Nat) (l : List (Nat × Value)) (i : Nat) (v : Value) : (i, sx_up ua v) :: (sx_upL ua l).filter (fun q => !(q.1 == i) && (!(q.1 == i + 1) && !(q.1 + 1 == i && q.2.category == 2))) = sx_upL ua (sx_s2 l i v) := by
  simp only [sx_upL, sx_s2, List.map_cons, List.filter_map]
  congr 2
  refine List.filter_congr (fun q _ => ?_)
  simp [Function.comp, sx_cat]
section SXP
variable {p : Program} {l : Launch} {e : Env} {R : Room} {s : State} {m : MethodId} {args : Array Value} {below : List Frame} {meth : Method} {c : Code} {H : Heap} {locs : List Loc} {cells slots : Nat} {Q : State → Prop}
variable {cc : ByteArray} {pc nL : Nat} {ua : Nat → Nat} {ls : Array Slot} {lv : List (Nat × Value)} {st : List Value} {F : sx_F}

theorem sx_jp_inv {off : Int} (h : sx_jp pc off lv st = some F) : ∃ t : Nat, (pc : Int) + off = (t : Int) ∧ F = (t, lv, st) := by
  unfold sx_jp at h
  by_cases hz : 0 ≤ (pc : Int) + off
  · rw [if_pos hz] at h
    cases h
    exact ⟨((pc : Int) + off).toNat, (Int.toNat_of_nonneg hz).symm, rfl⟩
  · rw [if_neg hz] at h
    cases h
theorem sx_bb_inv {off : Int} {r : List Value} {b : Bool} (h : sx_bb pc off lv r b = some F) : ∃ t : Nat, (pc : Int) + off = (t : Int) ∧ ((b = true ∧ F = (t, lv, r)) ∨ (b = false ∧ F = (pc + 3, lv, r))) := by
  unfold sx_bb at h
  by_cases hz : 0 ≤ (pc : Int) + off
  · rw [if_pos hz] at h
    refine ⟨((pc : Int) + off).toNat, (Int.toNat_of_nonneg hz).symm, ?_⟩
    cases b with
    | true =>
      rw [if_pos rfl] at h
      cases h
      exact Or.inl ⟨rfl, rfl⟩
    | false =>
      rw [if_neg (by decide)] at h
      cases h
      exact Or.inr ⟨rfl, rfl⟩
  · rw [if_neg hz] at h
    cases h
theorem sx_b1_inv {off : Int} {f : Int32 → Bool} (h : sx_b1 pc off lv st f = some F) : ∃ (x : Int32) (r : List Value), st = .int x :: r ∧ ∃ t : Nat, (pc : Int) + off = (t : Int) ∧ ((f x = true ∧ F = (t, lv, r)) ∨ (f x = false ∧ F = (pc + 3, lv, r))) := by
  unfold sx_b1 at h
  split at h
  · exact ⟨_, _, rfl, sx_bb_inv h⟩
  · cases h
theorem sx_b2_inv {off : Int} {f : Int32 → Int32 → Bool} (h : sx_b2 pc off lv st f = some F) : ∃ (x y : Int32) (r : List Value), st = .int y :: .int x :: r ∧ ∃ t : Nat, (pc : Int) + off = (t : Int) ∧ ((f x y = true ∧ F = (t, lv, r)) ∨ (f x y = false ∧ F = (pc + 3, lv, r))) := by
  unfold sx_b2 at h
  split at h
  · exact ⟨_, _, _, rfl, sx_bb_inv h⟩
  · cases h
theorem sx_i2_inv {f : Int32 → Int32 → Value} (h : sx_i2 pc lv st f = some F) : ∃ (x y : Int32) (r : List Value), st = .int y :: .int x :: r ∧ F = (pc + 1, lv, f x y :: r) := by
  unfold sx_i2 at h
  split at h
  · cases h
    exact ⟨_, _, _, rfl, rfl⟩
  · cases h
theorem sx_l2_inv {f : Int64 → Int64 → Value} (h : sx_l2 pc lv st f = some F) : ∃ (x y : Int64) (r : List Value), st = .long y :: .long x :: r ∧ F = (pc + 1, lv, f x y :: r) := by
  unfold sx_l2 at h
  split at h
  · cases h
    exact ⟨_, _, _, rfl, rfl⟩
  · cases h
theorem sx_li_inv {f : Int64 → Int32 → Value} (h : sx_li pc lv st f = some F) : ∃ (x : Int64) (y : Int32) (r : List Value), st = .int y :: .long x :: r ∧ F = (pc + 1, lv, f x y :: r) := by
  unfold sx_li at h
  split at h
  · cases h
    exact ⟨_, _, _, rfl, rfl⟩
  · cases h
theorem sx_i1_inv {f : Int32 → Value} (h : sx_i1 pc lv st f = some F) : ∃ (x : Int32) (r : List Value), st = .int x :: r ∧ F = (pc + 1, lv, f x :: r) := by
  unfold sx_i1 at h
  split at h
  · cases h
    exact ⟨_, _, rfl, rfl⟩
  · cases h
theorem sx_l1_inv {f : Int64 → Value} (h : sx_l1 pc lv st f = some F) : ∃ (x : Int64) (r : List Value), st = .long x :: r ∧ F = (pc + 1, lv, f x :: r) := by
  unfold sx_l1 at h
  split at h
  · cases h
    exact ⟨_, _, rfl, rfl⟩
  · cases h
theorem sx_ldI_inv {n i : Nat} (h : sx_ldI pc n lv st i = some F) : ∃ x : Int32, sx_lk lv i = some (.int x) ∧ F = (pc + n, lv, .int x :: st) := by
  unfold sx_ldI at h
  split at h
  · rename_i x hx
    cases h
    exact ⟨x, hx, rfl⟩
  · cases h
theorem sx_ldL_inv {n i : Nat} (h : sx_ldL pc n lv st i = some F) : ∃ x : Int64, sx_lk lv i = some (.long x) ∧ F = (pc + n, lv, .long x :: st) := by
  unfold sx_ldL at h
  split at h
  · rename_i x hx
    cases h
    exact ⟨x, hx, rfl⟩
  · cases h
theorem sx_ldA_inv {n i : Nat} (h : sx_ldA pc n lv st i = some F) : (∃ x : Nat, sx_lk lv i = some (.ref x) ∧ F = (pc + n, lv, .ref x :: st)) ∨ (sx_lk lv i = some .null ∧ F = (pc + n, lv, .null :: st)) := by
  unfold sx_ldA at h
  split at h
  · rename_i x hx
    cases h
    exact Or.inl ⟨x, hx, rfl⟩
  · rename_i hx
    cases h
    exact Or.inr ⟨hx, rfl⟩
  · cases h
theorem sx_svI_inv {n i : Nat} (h : sx_svI pc n nL lv st i = some F) : ∃ (x : Int32) (r : List Value), st = .int x :: r ∧ i < nL ∧ F = (pc + n, sx_s1 lv i (.int x), r) := by
  unfold sx_svI at h
  split at h
  · rename_i x r
    by_cases hi : i < nL
    · rw [if_pos hi] at h
      cases h
      exact ⟨x, r, rfl, hi, rfl⟩
    · rw [if_neg hi] at h
      cases h
  · cases h
theorem sx_svL_inv {n i : Nat} (h : sx_svL pc n nL lv st i = some F) : ∃ (x : Int64) (r : List Value), st = .long x :: r ∧ i + 1 < nL ∧ F = (pc + n, sx_s2 lv i (.long x), r) := by
  unfold sx_svL at h
  split at h
  · rename_i x r
    by_cases hi : i + 1 < nL
    · rw [if_pos hi] at h
      cases h
      exact ⟨x, r, rfl, hi, rfl⟩
    · rw [if_neg hi] at h
      cases h
  · cases h
theorem sx_svA_inv {n i : Nat} (h : sx_svA pc n nL lv st i = some F) : (∃ (x : Nat) (r : List Value), st = .ref x :: r ∧ i < nL ∧ F = (pc + n, sx_s1 lv i (.ref x), r)) ∨ (∃ r : List Value, st = .null :: r ∧ i < nL ∧ F = (pc + n, sx_s1 lv i .null, r)) := by
  unfold sx_svA at h
  split at h
  · rename_i x r
    by_cases hi : i < nL
    · rw [if_pos hi] at h
      cases h
      exact Or.inl ⟨x, r, rfl, hi, rfl⟩
    · rw [if_neg hi] at h
      cases h
  · rename_i r
    by_cases hi : i < nL
    · rw [if_pos hi] at h
      cases h
      exact Or.inr ⟨r, rfl, hi, rfl⟩
    · rw [if_neg hi] at h
      cases h
  · cases h
theorem sx_inc_inv {i : Nat} {n : Int} (h : sx_inc pc nL lv st i n = some F) : ∃ x : Int32, sx_lk lv i = some (.int x) ∧ i < nL ∧ F = (pc + 3, sx_s1 lv i (.int (x + Int32.ofInt n)), st) := by
  unfold sx_inc at h
  split at h
  · rename_i x hx
    by_cases hi : i < nL
    · rw [if_pos hi] at h
      cases h
      exact ⟨x, hx, hi, rfl⟩
    · rw [if_neg hi] at h
      cases h
  · cases h
theorem sx_if {a b : Nat} {o : Option sx_F} (h : (if a = b then o else none) = some F) : a = b ∧ o = some F := by
  by_cases hab : a = b
  · rw [if_pos hab] at h
    exact ⟨hab, h⟩
  · rw [if_neg hab] at h
    cases h
theorem sx_opR {ua : Nat → Nat} {v : Value} {y : Option Nat} (h : sx_op v = some y) : sx_up ua v = va_rf (y.map ua) := by
  unfold sx_op at h
  split at h
  · cases h
    rfl
  · cases h
    rfl
  · cases h
theorem sx_mapI {ua : Nat → Nat} (hua : ∀ a b, ua a = ua b → a = b) {x y : Option Nat} (h : x.map ua = y.map ua) : x = y := by
  cases x with
  | none => cases y with
    | none => rfl
    | some b => simp at h
  | some a => cases y with
    | none => simp at h
    | some b =>
      simp at h
      rw [hua a b h]
theorem sx_b0_inv {off : Int} {eq : Bool} (h : sx_b0 pc off lv st eq = some F) : ∃ (v w : Value) (x y : Option Nat) (r : List Value), st = v :: w :: r ∧ sx_op v = some y ∧ sx_op w = some x ∧ ∃ t : Nat, (pc : Int) + off = (t : Int) ∧ (((decide (x = y) == eq) = true ∧ F = (t, lv, r)) ∨ ((decide (x = y) == eq) = false ∧ F = (pc + 3, lv, r))) := by
  unfold sx_b0 at h
  split at h
  · split at h
    · rename_i y x hy hx
      exact ⟨_, _, x, y, _, rfl, hy, hx, sx_bb_inv h⟩
    · cases h
  · cases h
theorem sx_bn_inv {off : Int} {n : Bool} (h : sx_bn pc off lv st n = some F) : ∃ (r : List Value) (t : Nat), (pc : Int) + off = (t : Int) ∧ (((∃ a : Nat, st = .ref a :: r) ∧ ((n = false ∧ F = (t, lv, r)) ∨ (n = true ∧ F = (pc + 3, lv, r)))) ∨ (st = .null :: r ∧ ((n = true ∧ F = (t, lv, r)) ∨ (n = false ∧ F = (pc + 3, lv, r))))) := by
  unfold sx_bn at h
  split at h
  · rename_i a r
    obtain ⟨t, ht, hh⟩ := sx_bb_inv h
    refine ⟨r, t, ht, Or.inl ⟨⟨a, rfl⟩, ?_⟩⟩
    cases n with
    | true => exact Or.inr (by simpa using hh)
    | false => exact Or.inl (by simpa using hh)
  · rename_i r
    obtain ⟨t, ht, hh⟩ := sx_bb_inv h
    exact ⟨r, t, ht, Or.inr ⟨rfl, hh⟩⟩
  · cases h
theorem sx_sw_inv {d lo hi : Int} {offs : Array Int} (h : sx_sw pc lv st d lo hi offs = some F) : ∃ (x : Int32) (r : List Value), st = .int x :: r ∧ ((∃ t : Nat, (x.toInt < lo ∨ hi < x.toInt) ∧ (pc : Int) + d = (t : Int) ∧ F = (t, lv, r)) ∨ ∃ (o : Int) (t : Nat), ¬ x.toInt < lo ∧ ¬ hi < x.toInt ∧ offs[(x.toInt - lo).toNat]? = some o ∧ (pc : Int) + o = (t : Int) ∧ F = (t, lv, r)) := by
  unfold sx_sw at h
  split at h
  · rename_i x r
    refine ⟨x, r, rfl, ?_⟩
    by_cases hx : x.toInt < lo ∨ hi < x.toInt
    · rw [if_pos hx] at h
      obtain ⟨t, ht, rfl⟩ := sx_jp_inv h
      exact Or.inl ⟨t, hx, ht, rfl⟩
    · rw [if_neg hx] at h
      split at h
      · rename_i o ho
        obtain ⟨t, ht, rfl⟩ := sx_jp_inv h
        exact Or.inr ⟨o, t, fun q => hx (Or.inl q), fun q => hx (Or.inr q), ho, ht, rfl⟩
      · cases h
  · cases h

set_option maxHeartbeats 4000000 in
theorem sx_pure_ok (hexec : p.tables.exec = Jvm.exec) (hb : c.code = cc) (hua : ∀ a b, ua a = ua b → a = b) {i : Instr} {len : Nat} (hd : decode cc pc = .ok (i, len)) (hl : lv_has ls nL (sx_upL ua lv)) (h : sx_pure nL i len pc lv st = some F) (kk : ∀ ls' : Array Slot, lv_has ls' nL (sx_upL ua F.2.1) → W p l e R s m args below meth c H locs cells slots Q (F0 m F.1 ls' (sx_upS ua F.2.2))) : W p l e R s m args below meth c H locs cells slots Q (F0 m pc ls (sx_upS ua st)) := by
  cases i with
  | iconst n =>
    obtain ⟨rfl, h⟩ := sx_if h
    cases h
    exact lv_iconst hexec hb hd rfl (kk ls hl)
  | bipush n =>
    obtain ⟨rfl, h⟩ := sx_if h
    cases h
    exact lv_bipush hexec hb hd rfl (kk ls hl)
  | sipush n =>
    obtain ⟨rfl, h⟩ := sx_if h
    cases h
    exact lv_sipush hexec hb hd rfl (kk ls hl)
  | lconst n =>
    obtain ⟨rfl, h⟩ := sx_if h
    cases h
    exact lv_lconst hexec hb hd rfl (kk ls hl)
  | aconst_null =>
    obtain ⟨rfl, h⟩ := sx_if h
    cases h
    exact lv_null hexec hb hd (kk ls hl)
  | iload_n n =>
    obtain ⟨rfl, h⟩ := sx_if h
    obtain ⟨x, hx, rfl⟩ := sx_ldI_inv h
    exact lv_iload_n hexec hb hd rfl (sx_at hl hx) (kk ls hl)
  | iload n =>
    obtain ⟨rfl, h⟩ := sx_if h
    obtain ⟨x, hx, rfl⟩ := sx_ldI_inv h
    exact lv_iload hexec hb hd (sx_at hl hx) (kk ls hl)
  | lload_n n =>
    obtain ⟨rfl, h⟩ := sx_if h
    obtain ⟨x, hx, rfl⟩ := sx_ldL_inv h
    exact lv_lload_n hexec hb hd rfl (sx_at hl hx) (kk ls hl)
  | lload n =>
    obtain ⟨rfl, h⟩ := sx_if h
    obtain ⟨x, hx, rfl⟩ := sx_ldL_inv h
    exact lv_lload hexec hb hd (sx_at hl hx) (kk ls hl)
  | aload_n n =>
    obtain ⟨rfl, h⟩ := sx_if h
    rcases sx_ldA_inv h with ⟨x, hx, rfl⟩ | ⟨hx, rfl⟩
    · exact lv_aload_n hexec hb hd rfl (sx_at hl hx) (kk ls hl)
    · exact lv_aload_nN hexec hb hd rfl (sx_at hl hx) (kk ls hl)
  | aload n =>
    obtain ⟨rfl, h⟩ := sx_if h
    rcases sx_ldA_inv h with ⟨x, hx, rfl⟩ | ⟨hx, rfl⟩
    · exact lv_aload hexec hb hd (sx_at hl hx) (kk ls hl)
    · exact lv_aloadN hexec hb hd (sx_at hl hx) (kk ls hl)
  | istore_n n =>
    obtain ⟨rfl, h⟩ := sx_if h
    obtain ⟨x, r, rfl, hn, rfl⟩ := sx_svI_inv h
    exact lv_istore_n hexec hb hd rfl hl hn (sx_up_s1 ua lv _ (.int x)) kk
  | istore n =>
    obtain ⟨rfl, h⟩ := sx_if h
    obtain ⟨x, r, rfl, hn, rfl⟩ := sx_svI_inv h
    exact lv_istore hexec hb hd hl hn (sx_up_s1 ua lv _ (.int x)) kk
  | lstore_n n =>
    obtain ⟨rfl, h⟩ := sx_if h
    obtain ⟨x, r, rfl, hn, rfl⟩ := sx_svL_inv h
    exact lv_lstore_n hexec hb hd rfl hl hn (sx_up_s2 ua lv _ (.long x)) kk
  | lstore n =>
    obtain ⟨rfl, h⟩ := sx_if h
    obtain ⟨x, r, rfl, hn, rfl⟩ := sx_svL_inv h
    exact lv_lstore hexec hb hd hl hn (sx_up_s2 ua lv _ (.long x)) kk
  | astore_n n =>
    obtain ⟨rfl, h⟩ := sx_if h
    rcases sx_svA_inv h with ⟨x, r, rfl, hn, rfl⟩ | ⟨r, rfl, hn, rfl⟩
    · exact lv_astore_n hexec hb hd rfl hl hn (sx_up_s1 ua lv _ (.ref x)) kk
    · exact lv_astore_nN hexec hb hd rfl hl hn (sx_up_s1 ua lv _ .null) kk
  | astore n =>
    obtain ⟨rfl, h⟩ := sx_if h
    rcases sx_svA_inv h with ⟨x, r, rfl, hn, rfl⟩ | ⟨r, rfl, hn, rfl⟩
    · exact lv_astore hexec hb hd hl hn (sx_up_s1 ua lv _ (.ref x)) kk
    · exact lv_astoreN hexec hb hd hl hn (sx_up_s1 ua lv _ .null) kk
  | iinc n k =>
    obtain ⟨rfl, h⟩ := sx_if h
    obtain ⟨x, hx, hn, rfl⟩ := sx_inc_inv h
    obtain ⟨j, hj⟩ := sx_at' (ua := ua) hx
    exact lv_iinc hexec hb hd hl hj rfl hn (sx_up_s1 ua lv _ (.int _)) kk
  | pop =>
    obtain ⟨rfl, h⟩ := sx_if h
    rename_i h2
    clear h
    split at h2
    · rename_i v r
      by_cases hv : v.category = 1
      · rw [if_pos hv] at h2
        cases h2
        exact lv_pop hexec hb hd (by rw [sx_cat]; exact hv) (kk ls hl)
      · rw [if_neg hv] at h2
        cases h2
    · cases h2
  | dup =>
    obtain ⟨rfl, h⟩ := sx_if h
    rename_i h2
    clear h
    split at h2
    · rename_i v r
      by_cases hv : v.category = 1
      · rw [if_pos hv] at h2
        cases h2
        exact lv_dup hexec hb hd (by rw [sx_cat]; exact hv) (kk ls hl)
      · rw [if_neg hv] at h2
        cases h2
    · cases h2
  | dup_x1 =>
    obtain ⟨rfl, h⟩ := sx_if h
    rename_i h2
    clear h
    split at h2
    · rename_i v w r
      by_cases hv : v.category = 1 ∧ w.category = 1
      · rw [if_pos hv] at h2
        cases h2
        exact lv_dup_x1 hexec hb hd (by rw [sx_cat]; exact hv.1) (by rw [sx_cat]; exact hv.2) (kk ls hl)
      · rw [if_neg hv] at h2
        cases h2
    · cases h2
  | dup2 =>
    obtain ⟨rfl, h⟩ := sx_if h
    rename_i h2
    clear h
    split at h2
    · rename_i v w r
      by_cases hv : v.category = 1 ∧ w.category = 1
      · rw [if_pos hv] at h2
        cases h2
        exact lv_dup2_11 hexec hb hd (by rw [sx_cat]; exact hv.1) (by rw [sx_cat]; exact hv.2) (kk ls hl)
      · rw [if_neg hv] at h2
        cases h2
    · cases h2
  | l2i =>
    obtain ⟨rfl, h⟩ := sx_if h
    obtain ⟨x, r, rfl, rfl⟩ := sx_l1_inv h
    exact lv_l2i hexec hb hd rfl (kk ls hl)
  | lcmp =>
    obtain ⟨rfl, h⟩ := sx_if h
    obtain ⟨x, y, r, rfl, rfl⟩ := sx_l2_inv h
    exact W.lcmp hexec hb hd (kk ls hl)
  | goto off =>
    obtain ⟨rfl, h⟩ := sx_if h
    obtain ⟨t, ht, rfl⟩ := sx_jp_inv h
    exact lv_goto hexec hb hd ht (kk ls hl)
  | iadd =>
    obtain ⟨rfl, h⟩ := sx_if h
    obtain ⟨x, y, r, rfl, rfl⟩ := sx_i2_inv h
    exact lv_iadd hexec hb hd (kk ls hl)
  | isub =>
    obtain ⟨rfl, h⟩ := sx_if h
    obtain ⟨x, y, r, rfl, rfl⟩ := sx_i2_inv h
    exact lv_isub hexec hb hd (kk ls hl)
  | imul =>
    obtain ⟨rfl, h⟩ := sx_if h
    obtain ⟨x, y, r, rfl, rfl⟩ := sx_i2_inv h
    exact lv_imul hexec hb hd (kk ls hl)
  | iand =>
    obtain ⟨rfl, h⟩ := sx_if h
    obtain ⟨x, y, r, rfl, rfl⟩ := sx_i2_inv h
    exact lv_iand hexec hb hd (kk ls hl)
  | ior =>
    obtain ⟨rfl, h⟩ := sx_if h
    obtain ⟨x, y, r, rfl, rfl⟩ := sx_i2_inv h
    exact lv_ior hexec hb hd (kk ls hl)
  | ixor =>
    obtain ⟨rfl, h⟩ := sx_if h
    obtain ⟨x, y, r, rfl, rfl⟩ := sx_i2_inv h
    exact lv_ixor hexec hb hd (kk ls hl)
  | ishl =>
    obtain ⟨rfl, h⟩ := sx_if h
    obtain ⟨x, y, r, rfl, rfl⟩ := sx_i2_inv h
    exact lv_ishl hexec hb hd (kk ls hl)
  | ishr =>
    obtain ⟨rfl, h⟩ := sx_if h
    obtain ⟨x, y, r, rfl, rfl⟩ := sx_i2_inv h
    exact lv_ishr hexec hb hd (kk ls hl)
  | iushr =>
    obtain ⟨rfl, h⟩ := sx_if h
    obtain ⟨x, y, r, rfl, rfl⟩ := sx_i2_inv h
    exact lv_iushr hexec hb hd rfl (kk ls hl)
  | ladd =>
    obtain ⟨rfl, h⟩ := sx_if h
    obtain ⟨x, y, r, rfl, rfl⟩ := sx_l2_inv h
    exact lv_ladd hexec hb hd (kk ls hl)
  | lsub =>
    obtain ⟨rfl, h⟩ := sx_if h
    obtain ⟨x, y, r, rfl, rfl⟩ := sx_l2_inv h
    exact lv_lsub hexec hb hd (kk ls hl)
  | lmul =>
    obtain ⟨rfl, h⟩ := sx_if h
    obtain ⟨x, y, r, rfl, rfl⟩ := sx_l2_inv h
    exact lv_lmul hexec hb hd (kk ls hl)
  | land =>
    obtain ⟨rfl, h⟩ := sx_if h
    obtain ⟨x, y, r, rfl, rfl⟩ := sx_l2_inv h
    exact lv_land hexec hb hd (kk ls hl)
  | lor =>
    obtain ⟨rfl, h⟩ := sx_if h
    obtain ⟨x, y, r, rfl, rfl⟩ := sx_l2_inv h
    exact lv_lor hexec hb hd (kk ls hl)
  | lxor =>
    obtain ⟨rfl, h⟩ := sx_if h
    obtain ⟨x, y, r, rfl, rfl⟩ := sx_l2_inv h
    exact lv_lxor hexec hb hd (kk ls hl)
  | lushr =>
    obtain ⟨rfl, h⟩ := sx_if h
    obtain ⟨x, y, r, rfl, rfl⟩ := sx_li_inv h
    exact lv_lushr hexec hb hd rfl (kk ls hl)
  | lshl =>
    obtain ⟨rfl, h⟩ := sx_if h
    obtain ⟨x, y, r, rfl, rfl⟩ := sx_li_inv h
    exact lv_lshl hexec hb hd rfl (kk ls hl)
  | lshr =>
    obtain ⟨rfl, h⟩ := sx_if h
    obtain ⟨x, y, r, rfl, rfl⟩ := sx_li_inv h
    exact lv_lshr hexec hb hd rfl (kk ls hl)
  | i2l =>
    obtain ⟨rfl, h⟩ := sx_if h
    obtain ⟨x, r, rfl, rfl⟩ := sx_i1_inv h
    exact lv_i2l hexec hb hd rfl (kk ls hl)
  | i2b =>
    obtain ⟨rfl, h⟩ := sx_if h
    obtain ⟨x, r, rfl, rfl⟩ := sx_i1_inv h
    exact lv_i2b hexec hb hd rfl (kk ls hl)
  | i2s =>
    obtain ⟨rfl, h⟩ := sx_if h
    obtain ⟨x, r, rfl, rfl⟩ := sx_i1_inv h
    exact lv_i2s hexec hb hd rfl (kk ls hl)
  | i2c =>
    obtain ⟨rfl, h⟩ := sx_if h
    obtain ⟨x, r, rfl, rfl⟩ := sx_i1_inv h
    exact lv_i2c hexec hb hd rfl (kk ls hl)
  | ineg =>
    obtain ⟨rfl, h⟩ := sx_if h
    obtain ⟨x, r, rfl, rfl⟩ := sx_i1_inv h
    exact lv_ineg hexec hb hd (kk ls hl)
  | ifCond cd off =>
    cases cd with
    | eq =>
      obtain ⟨rfl, h⟩ := sx_if h
      obtain ⟨x, r, rfl, t, ht, hh⟩ := sx_b1_inv h
      rcases hh with ⟨hf, rfl⟩ | ⟨hf, rfl⟩
      · exact lv_if_eq hexec hb hd ht (fun _ => kk ls hl) (fun q => absurd (of_decide_eq_true hf) q)
      · exact lv_if_eq hexec hb hd ht (fun q => absurd q (of_decide_eq_false hf)) (fun _ => kk ls hl)
    | ne =>
      obtain ⟨rfl, h⟩ := sx_if h
      obtain ⟨x, r, rfl, t, ht, hh⟩ := sx_b1_inv h
      rcases hh with ⟨hf, rfl⟩ | ⟨hf, rfl⟩
      · exact lv_if_ne hexec hb hd ht (fun _ => kk ls hl) (fun q => absurd q (of_decide_eq_true hf))
      · exact lv_if_ne hexec hb hd ht (fun q => absurd q (of_decide_eq_false hf)) (fun _ => kk ls hl)
    | lt =>
      obtain ⟨rfl, h⟩ := sx_if h
      obtain ⟨x, r, rfl, t, ht, hh⟩ := sx_b1_inv h
      rcases hh with ⟨hf, rfl⟩ | ⟨hf, rfl⟩
      · exact lv_if_lt hexec hb hd ht (fun _ => kk ls hl) (fun q => absurd (of_decide_eq_true hf) q)
      · exact lv_if_lt hexec hb hd ht (fun q => absurd q (of_decide_eq_false hf)) (fun _ => kk ls hl)
    | ge =>
      obtain ⟨rfl, h⟩ := sx_if h
      obtain ⟨x, r, rfl, t, ht, hh⟩ := sx_b1_inv h
      rcases hh with ⟨hf, rfl⟩ | ⟨hf, rfl⟩
      · exact lv_if_ge hexec hb hd ht (fun _ => kk ls hl) (fun q => absurd (of_decide_eq_true hf) q)
      · exact lv_if_ge hexec hb hd ht (fun q => absurd q (of_decide_eq_false hf)) (fun _ => kk ls hl)
    | gt =>
      obtain ⟨rfl, h⟩ := sx_if h
      obtain ⟨x, r, rfl, t, ht, hh⟩ := sx_b1_inv h
      rcases hh with ⟨hf, rfl⟩ | ⟨hf, rfl⟩
      · exact lv_if_gt hexec hb hd ht (fun _ => kk ls hl) (fun q => absurd (of_decide_eq_true hf) q)
      · exact lv_if_gt hexec hb hd ht (fun q => absurd q (of_decide_eq_false hf)) (fun _ => kk ls hl)
    | le =>
      obtain ⟨rfl, h⟩ := sx_if h
      obtain ⟨x, r, rfl, t, ht, hh⟩ := sx_b1_inv h
      rcases hh with ⟨hf, rfl⟩ | ⟨hf, rfl⟩
      · exact lv_if_le hexec hb hd ht (fun _ => kk ls hl) (fun q => absurd (of_decide_eq_true hf) q)
      · exact lv_if_le hexec hb hd ht (fun q => absurd q (of_decide_eq_false hf)) (fun _ => kk ls hl)
  | if_icmp cd off =>
    cases cd with
    | eq =>
      obtain ⟨rfl, h⟩ := sx_if h
      obtain ⟨x, y, r, rfl, t, ht, hh⟩ := sx_b2_inv h
      rcases hh with ⟨hf, rfl⟩ | ⟨hf, rfl⟩
      · exact lv_icmp_eq hexec hb hd ht (fun _ => kk ls hl) (fun q => absurd (of_decide_eq_true hf) q)
      · exact lv_icmp_eq hexec hb hd ht (fun q => absurd q (of_decide_eq_false hf)) (fun _ => kk ls hl)
    | ne =>
      obtain ⟨rfl, h⟩ := sx_if h
      obtain ⟨x, y, r, rfl, t, ht, hh⟩ := sx_b2_inv h
      rcases hh with ⟨hf, rfl⟩ | ⟨hf, rfl⟩
      · exact lv_icmp_ne hexec hb hd ht (fun _ => kk ls hl) (fun q => absurd q (of_decide_eq_true hf))
      · exact lv_icmp_ne hexec hb hd ht (fun q => absurd q (of_decide_eq_false hf)) (fun _ => kk ls hl)
    | lt =>
      obtain ⟨rfl, h⟩ := sx_if h
      obtain ⟨x, y, r, rfl, t, ht, hh⟩ := sx_b2_inv h
      rcases hh with ⟨hf, rfl⟩ | ⟨hf, rfl⟩
      · exact lv_icmp_lt hexec hb hd ht (fun _ => kk ls hl) (fun q => absurd (of_decide_eq_true hf) q)
      · exact lv_icmp_lt hexec hb hd ht (fun q => absurd q (of_decide_eq_false hf)) (fun _ => kk ls hl)
    | ge =>
      obtain ⟨rfl, h⟩ := sx_if h
      obtain ⟨x, y, r, rfl, t, ht, hh⟩ := sx_b2_inv h
      rcases hh with ⟨hf, rfl⟩ | ⟨hf, rfl⟩
      · exact lv_icmp_ge hexec hb hd ht (fun _ => kk ls hl) (fun q => absurd (of_decide_eq_true hf) q)
      · exact lv_icmp_ge hexec hb hd ht (fun q => absurd q (of_decide_eq_false hf)) (fun _ => kk ls hl)
    | gt =>
      obtain ⟨rfl, h⟩ := sx_if h
      obtain ⟨x, y, r, rfl, t, ht, hh⟩ := sx_b2_inv h
      rcases hh with ⟨hf, rfl⟩ | ⟨hf, rfl⟩
      · exact lv_icmp_gt hexec hb hd ht (fun _ => kk ls hl) (fun q => absurd (of_decide_eq_true hf) q)
      · exact lv_icmp_gt hexec hb hd ht (fun q => absurd q (of_decide_eq_false hf)) (fun _ => kk ls hl)
    | le =>
      obtain ⟨rfl, h⟩ := sx_if h
      obtain ⟨x, y, r, rfl, t, ht, hh⟩ := sx_b2_inv h
      rcases hh with ⟨hf, rfl⟩ | ⟨hf, rfl⟩
      · exact lv_icmp_le hexec hb hd ht (fun _ => kk ls hl) (fun q => absurd (of_decide_eq_true hf) q)
      · exact lv_icmp_le hexec hb hd ht (fun q => absurd q (of_decide_eq_false hf)) (fun _ => kk ls hl)
  | if_acmp cd off =>
    cases cd with
    | eq =>
      obtain ⟨rfl, h⟩ := sx_if h
      obtain ⟨v, w, x, y, r, rfl, hv, hw, t, ht, hh⟩ := sx_b0_inv h
      refine W.eq (g2 := F0 m pc ls (va_rf (y.map ua) :: va_rf (x.map ua) :: sx_upS ua r)) (by rw [← sx_opR hv, ← sx_opR hw]; rfl) ?_
      rcases hh with ⟨hf, rfl⟩ | ⟨hf, rfl⟩
      · have hf : x = y := by simpa using hf
        exact lv_acmp_eq hexec hb hd ht (fun _ => kk ls hl) (fun q => absurd (by rw [hf]) q)
      · have hf : ¬ x = y := by simpa using hf
        exact lv_acmp_eq hexec hb hd ht (fun q => absurd (sx_mapI hua q) hf) (fun _ => kk ls hl)
    | ne =>
      obtain ⟨rfl, h⟩ := sx_if h
      obtain ⟨v, w, x, y, r, rfl, hv, hw, t, ht, hh⟩ := sx_b0_inv h
      refine W.eq (g2 := F0 m pc ls (va_rf (y.map ua) :: va_rf (x.map ua) :: sx_upS ua r)) (by rw [← sx_opR hv, ← sx_opR hw]; rfl) ?_
      rcases hh with ⟨hf, rfl⟩ | ⟨hf, rfl⟩
      · have hf : ¬ x = y := by simpa using hf
        exact lv_acmp_ne hexec hb hd ht (fun _ => kk ls hl) (fun q => absurd (sx_mapI hua q) hf)
      · have hf : x = y := by simpa using hf
        exact lv_acmp_ne hexec hb hd ht (fun q => absurd (by rw [hf]) q) (fun _ => kk ls hl)
  | ifnull off =>
    obtain ⟨rfl, h⟩ := sx_if h
    obtain ⟨r, t, ht, hh⟩ := sx_bn_inv h
    rcases hh with ⟨⟨a, rfl⟩, ⟨hf, rfl⟩ | ⟨hf, rfl⟩⟩ | ⟨rfl, ⟨hf, rfl⟩ | ⟨hf, rfl⟩⟩
    · cases hf
    · exact lv_ifnull hexec hb hd (kk ls hl)
    · exact lv_ifnullN hexec hb hd ht (kk ls hl)
    · cases hf
  | ifnonnull off =>
    obtain ⟨rfl, h⟩ := sx_if h
    obtain ⟨r, t, ht, hh⟩ := sx_bn_inv h
    rcases hh with ⟨⟨a, rfl⟩, ⟨hf, rfl⟩ | ⟨hf, rfl⟩⟩ | ⟨rfl, ⟨hf, rfl⟩ | ⟨hf, rfl⟩⟩
    · exact lv_ifnonnull hexec hb hd ht (kk ls hl)
    · cases hf
    · cases hf
    · exact lv_ifnonnullN hexec hb hd (kk ls hl)
  | tableswitch d lo hi offs =>
    obtain ⟨x, r, rfl, hh⟩ := sx_sw_inv h
    rcases hh with ⟨t, hx, ht, rfl⟩ | ⟨o, t, h1, h2, ho, ht, rfl⟩
    · exact lv_tableOut hexec hb hd hx ht (kk ls hl)
    · exact lv_tableIn hexec hb hd h1 h2 ho ht (kk ls hl)
  | _ => cases h
end SXP
end
section
/-! THE ABSTRACT HEAP: a list of cells; place k stands at the address 'ua k'. Places below K0: arrays that were there before (read alone); from K0 on: what the program makes, one behind the other from the address 'base' on -/
abbrev sx_C : Type := (Nat × vp_A) ⊕ ((Nat × List Value) ⊕ Nat)
abbrev sx_H : Type := List sx_C
def sx_upA (ua : Nat → Nat) (x : vp_A) : vp_A := match x with
  | (n, .inr (.inr (.inr (.inr g)))) => (n, .inr (.inr (.inr (.inr (fun j => (g j).map ua)))))
  | (n, .inr (.inr (.inr (.inl g)))) => (n, .inr (.inr (.inr (.inl g))))
  | (n, .inr (.inr (.inl g))) => (n, .inr (.inr (.inl g)))
  | (n, .inr (.inl g)) => (n, .inr (.inl g))
  | (n, .inl g) => (n, .inl g)
def sx_val (x : vp_A) (j : Nat) : Value := match x.2 with
  | .inl f => .int (f j)
  | .inr (.inl f) => .long (f j)
  | .inr (.inr (.inl f)) => .float (f j)
  | .inr (.inr (.inr (.inl f))) => .double (f j)
  | .inr (.inr (.inr (.inr g))) => va_rf (g j)
theorem sx_upA_n (ua : Nat → Nat) (x : vp_A) : (sx_upA ua x).1 = x.1 := by
  obtain ⟨n, f | f | f | f | f⟩ := x <;> rfl
theorem sx_up_rf (ua : Nat → Nat) (r : Option Nat) : sx_up ua (va_rf r) = va_rf (r.map ua) := by cases r <;> rfl
theorem sx_val_up (ua : Nat → Nat) (x : vp_A) (j : Nat) : sx_val (sx_upA ua x) j = sx_up ua (sx_val x j) := by
  obtain ⟨n, f | f | f | f | f⟩ := x
  · rfl
  · rfl
  · rfl
  · rfl
  · exact (sx_up_rf ua (f j)).symm
theorem sx_cellV (cA : ClassId) (x : vp_A) : vp_cell cA x = arrV cA x.1 (sx_val x) := by
  obtain ⟨n, f | f | f | f | f⟩ := x <;> rfl
/-- an array that can be read -/
def sx_rd (U : State) (ty : FieldType) (n : Nat) (f : Nat → Value) (a : Nat) (H : Heap) : Prop := ∃ scr : Cell, H[a]? = some scr ∧ U.isArrayOf scr ty ∧ scr.vm ≠ .unknown ∧ scr.slots.size = n ∧ ∀ j : Nat, j < n → scr.slots[j]? = some (f j)
/-- a cell that the program made -/
def sx_cellS (D : va_G) (cl : List vw_C) (tys : List (ClassId × FieldType)) (ex : List String) (U : State) (ua : Nat → Nat) (c : sx_C) (a : Nat) (H : Heap) : Prop := match c with
  | .inl (t, x) => ∃ q : ClassId × FieldType, tys[t]? = some q ∧ H[a]? = some (vp_cell q.1 (sx_upA ua x))
  | .inr (.inl (ci, fs)) => va_at D cl (a, .inr (ci, fs.map (sx_up ua))) H
  | .inr (.inr j) => ∃ (cell : Cell) (X : String), ex[j]? = some X ∧ H[a]? = some cell ∧ cell.vm.isStatics = false ∧ U.vm.findClass X = some cell.cls
/-- a cell that was there -/
def sx_cellW (tys : List (ClassId × FieldType)) (U : State) (ua : Nat → Nat) (c : sx_C) (a : Nat) (H : Heap) : Prop := match c with
  | .inl (t, x) => ∃ q : ClassId × FieldType, tys[t]? = some q ∧ sx_rd U q.2 x.1 (fun j => sx_up ua (sx_val x j)) a H
  | _ => False
/-- a static field of a reference type that is laid -/
def sx_LS (base : Nat) (C n d : String) (U : State) (H : Heap) : Prop := ∃ (c : ClassId) (k : Class) (i : Nat) (f : Field) (a : Nat) (cell : Cell) (v : Value), U.vm.findClass C = some c ∧ U.fieldFound? C n d = some (c, k, i, f) ∧ f.isStatic = true ∧ k.statics = some a ∧ H[a]? = some cell ∧ cell.vm.isStatics = true ∧ cell.cls = c ∧ f.slot < cell.slots.size ∧ k.staticTypes[f.slot]? = some f.type ∧ cell.slots[f.slot]? = some v ∧ (v = .null ∨ ∃ x, v = .ref x) ∧ a < base
theorem sx_LS.moved {base : Nat} {C n d : String} {u U : State} {H : Heap} (hvm : u.vm.Alike U.vm) (h : sx_LS base C n d u H) : sx_LS base C n d U H := by
  obtain ⟨c, k, i, f, a, cell, v, h1, h2, h3, h4, h5, h6, h7, h8, h9, h10⟩ := h
  obtain ⟨k', hi', he⟩ := State.fieldFound?_setVm hvm h2
  exact ⟨c, k', i, f, a, cell, v, by rw [hvm.findClass]; exact h1, hi', h3, by rw [he]; exact h4, h5, h6, h7, h8, by rw [he]; exact h9, h10⟩
theorem sx_LS.kept {base : Nat} {C n d : String} {U : State} {H H1 : Heap} (h : sx_LS base C n d U H) (hq : ∀ a : Nat, a < H.size → a < base → H1[a]? = H[a]?) : sx_LS base C n d U H1 := by
  obtain ⟨c, k, i, f, a, cell, v, h1, h2, h3, h4, h5, h6, h7, h8, h9, h10, h11, h12⟩ := h
  exact ⟨c, k, i, f, a, cell, v, h1, h2, h3, h4, by rw [hq a (Array.getElem?_eq_some_iff.mp h5).1 h12]; exact h5, h6, h7, h8, h9, h10, h11, h12⟩
theorem sx_LS.lays {base : Nat} {C n d : String} {U : State} (h : sx_LS base C n d U U.heap) (args : Array Value) : (Cond.laysStatic C n d).before args U = true := by
  obtain ⟨c, k, i, f, a, cell, v, h1, h2, h3, h4, h5, h6, h7, h8, h9, h10, h11, h12⟩ := h
  simp [Cond.before, Cond.holds, Cond.value, h1, h2, h3, h4, h5, h6, h7, h8, h9]
theorem sx_LS.isRef {base : Nat} {C n d : String} {U : State} (h : sx_LS base C n d U U.heap) (args : Array Value) : (Cond.isRef (.static C n d)).before args U = true := by
  obtain ⟨c, k, i, f, a, cell, v, h1, h2, h3, h4, h5, h6, h7, h8, h9, h10, h11, h12⟩ := h
  have he : (Term.static C n d).eval args U none [] U = some v := by
    simp [Term.eval, State.fieldNamed?, h2, h3, h4, h5, h6, h10]
  simp only [Cond.before, Cond.holds, Cond.value, he]
  rcases h11 with e | ⟨x, e⟩ <;> simp [e]
theorem sx_LS.of {args : Array Value} {s : State} {base : Nat} {C n d : String} (hl : (Cond.laysStatic C n d).before args s = true) (hr : (Cond.isRef (.static C n d)).before args s = true) (hb : s.heap.size ≤ base) : sx_LS base C n d s s.heap := by
  obtain ⟨c, k, i, f, a, cell, hc, hi, hst, ha, hcell, hs, hcls, hlt, hty⟩ := Cond.laysStatic_spec hl
  have hv : cell.slots[f.slot]? = some cell.slots[f.slot] := Array.getElem?_eq_getElem hlt
  have he : (Term.static C n d).eval args s none [] s = some cell.slots[f.slot] := by
    simp [Term.eval, State.fieldNamed?, hi, hst, ha, hcell, hs, hv]
  refine ⟨c, k, i, f, a, cell, _, hc, hi, hst, ha, hcell, hs, hcls, hlt, hty, hv, ?_, Nat.lt_of_lt_of_le (Array.getElem?_eq_some_iff.mp hcell).1 hb⟩
  simp only [Cond.before, Cond.holds, Cond.value, he] at hr
  cases hz : cell.slots[f.slot] with
  | null => exact Or.inl rfl
  | ref x => exact Or.inr ⟨x, rfl⟩
  | _ => rw [hz] at hr; simp at hr
/-- static fields that hold what they held; and the two of Throwable's -/
def sx_Z (base : Nat) (ua : Nat → Nat) (U : State) (zs : List (String × String × String × Value)) (H : Heap) : Prop := (∀ z ∈ zs, va_Z z.1 z.2.1 z.2.2.1 (sx_up ua z.2.2.2) (fun q => base ≤ q) U H) ∧ sx_LS base Bundle.tN "UNASSIGNED_STACK" Bundle.steD U H ∧ sx_LS base Bundle.tN "SUPPRESSED_SENTINEL" Bundle.listD U H
def sx_R (D : va_G) (cl : List vw_C) (tys : List (ClassId × FieldType)) (ex : List String) (zs : List (String × String × String × Value)) (K0 base : Nat) (ua : Nat → Nat) (U : State) (hs : sx_H) (H : Heap) : Prop :=
  K0 ≤ hs.length ∧ H.size + K0 = base + hs.length ∧ (∀ (k : Nat) (c : sx_C), hs[k]? = some c → K0 ≤ k → sx_cellS D cl tys ex U ua c (ua k) H) ∧ (∀ (k : Nat) (c : sx_C), hs[k]? = some c → k < K0 → sx_cellW tys U ua c (ua k) H) ∧ sx_Z base ua U zs H
def sx_A (K0 base : Nat) (ua : Nat → Nat) : Prop := (∀ k, K0 ≤ k → ua k + K0 = base + k) ∧ (∀ k, k < K0 → ua k < base) ∧ (∀ a b, ua a = ua b → a = b)
theorem sx_rd.kept {U : State} {ty : FieldType} {n : Nat} {f : Nat → Value} {a : Nat} {H H1 : Heap} (h : sx_rd U ty n f a H) (hq : H1[a]? = H[a]?) : sx_rd U ty n f a H1 := by
  obtain ⟨scr, h1, h2⟩ := h
  exact ⟨scr, hq.trans h1, h2⟩
theorem sx_rd.moved {u U : State} (hvm : u.vm.Alike U.vm) {ty : FieldType} {n : Nat} {f : Nat → Value} {a : Nat} {H : Heap} (h : sx_rd u ty n f a H) : sx_rd U ty n f a H := by
  obtain ⟨scr, h1, h2, h3⟩ := h
  exact ⟨scr, h1, State.isArrayOf_alike hvm h2, h3⟩
theorem sx_cellS.kept {D : va_G} {cl : List vw_C} {tys : List (ClassId × FieldType)} {ex : List String} {U : State} {ua : Nat → Nat} {c : sx_C} {a : Nat} {H H1 : Heap} (h : sx_cellS D cl tys ex U ua c a H) (hq : H1[a]? = H[a]?) : sx_cellS D cl tys ex U ua c a H1 := by
  obtain ⟨t, x⟩ | ⟨ci, fs⟩ | j := c
  · obtain ⟨q, h1, h2⟩ := h
    exact ⟨q, h1, hq.trans h2⟩
  · exact va_at.kept (D := D) (cl := cl) (q := (a, .inr (ci, fs.map (sx_up ua)))) (H := H) h hq
  · obtain ⟨cell, X, h1, h2, h3⟩ := h
    exact ⟨cell, X, h1, hq.trans h2, h3⟩
theorem sx_cellS.moved {D : va_G} {cl : List vw_C} {tys : List (ClassId × FieldType)} {ex : List String} {u U : State} (hvm : u.vm.Alike U.vm) {ua : Nat → Nat} {c : sx_C} {a : Nat} {H : Heap} (h : sx_cellS D cl tys ex u ua c a H) : sx_cellS D cl tys ex U ua c a H := by
  obtain ⟨t, x⟩ | ⟨ci, fs⟩ | j := c
  · exact h
  · exact h
  · obtain ⟨cell, X, h1, h2, h3, h4⟩ := h
    exact ⟨cell, X, h1, h2, h3, by rw [hvm.findClass]; exact h4⟩
theorem sx_cellW.kept {tys : List (ClassId × FieldType)} {U : State} {ua : Nat → Nat} {c : sx_C} {a : Nat} {H H1 : Heap} (h : sx_cellW tys U ua c a H) (hq : H1[a]? = H[a]?) : sx_cellW tys U ua c a H1 := by
  obtain ⟨t, x⟩ | ⟨ci, fs⟩ | j := c
  · obtain ⟨q, h1, h2⟩ := h
    exact ⟨q, h1, h2.kept hq⟩
  · exact h
  · exact h
theorem sx_cellW.moved {tys : List (ClassId × FieldType)} {u U : State} (hvm : u.vm.Alike U.vm) {ua : Nat → Nat} {c : sx_C} {a : Nat} {H : Heap} (h : sx_cellW tys u ua c a H) : sx_cellW tys U ua c a H := by
  obtain ⟨t, x⟩ | ⟨ci, fs⟩ | j := c
  · obtain ⟨q, h1, h2⟩ := h
    exact ⟨q, h1, h2.moved hvm⟩
  · exact h
  · exact h
theorem sx_Z.moved {base : Nat} {ua : Nat → Nat} {u U : State} {zs : List (String × String × String × Value)} {H : Heap} (hvm : u.vm.Alike U.vm) (h : sx_Z base ua u zs H) : sx_Z base ua U zs H := ⟨fun z hz => (h.1 z hz).moved hvm, h.2.1.moved hvm, h.2.2.moved hvm⟩
theorem sx_Z.kept {base : Nat} {ua : Nat → Nat} {U : State} {zs : List (String × String × String × Value)} {H H1 : Heap} (h : sx_Z base ua U zs H) (hq : ∀ a : Nat, a < H.size → a < base → H1[a]? = H[a]?) : sx_Z base ua U zs H1 := ⟨fun z hz => (h.1 z hz).kept (fun a h1 h2 => hq a h1 (by omega)), h.2.1.kept hq, h.2.2.kept hq⟩
section SXR
variable {D : va_G} {cl : List vw_C} {tys : List (ClassId × FieldType)} {ex : List String} {zs : List (String × String × String × Value)} {K0 base : Nat} {ua : Nat → Nat} {U : State} {hs : sx_H} {H : Heap}
theorem sx_R.moved {u : State} (hvm : u.vm.Alike U.vm) (h : sx_R D cl tys ex zs K0 base ua u hs H) : sx_R D cl tys ex zs K0 base ua U hs H :=
  ⟨h.1, h.2.1, fun k c hk hK => (h.2.2.1 k c hk hK).moved hvm, fun k c hk hK => (h.2.2.2.1 k c hk hK).moved hvm, h.2.2.2.2.moved hvm⟩
theorem sx_R.lt (hA : sx_A K0 base ua) (h : sx_R D cl tys ex zs K0 base ua U hs H) {k : Nat} {c : sx_C} (hk : hs[k]? = some c) : ua k < H.size := by
  have hl : k < hs.length := (List.getElem?_eq_some_iff.mp hk).1
  have h2 := h.2.1
  have h1 := h.1
  by_cases hK : K0 ≤ k
  · have := hA.1 k hK
    omega
  · have := hA.2.1 k (by omega)
    omega
theorem sx_R.set (hA : sx_A K0 base ua) (hR : sx_R D cl tys ex zs K0 base ua U hs H) {a : Nat} {c0 c : sx_C} (h0 : hs[a]? = some c0) (ha : K0 ≤ a) {H1 : Heap} (hc : sx_cellS D cl tys ex U ua c (ua a) H1) (z : H1.size = H.size) (o : ∀ q : Nat, q ≠ ua a → H1[q]? = H[q]?) : sx_R D cl tys ex zs K0 base ua U (hs.set a c) H1 := by
  have hl : a < hs.length := (List.getElem?_eq_some_iff.mp h0).1
  refine ⟨by rw [List.length_set]; exact hR.1, by rw [List.length_set, z]; exact hR.2.1, fun k c' hk hK => ?_, fun k c' hk hK => ?_, hR.2.2.2.2.kept (fun q _ hb => o q (fun e => by have := hA.1 a ha; omega))⟩
  · by_cases e : k = a
    · subst e
      rw [List.getElem?_set_self hl] at hk
      cases hk
      exact hc
    · rw [List.getElem?_set_ne (Ne.symm e)] at hk
      exact (hR.2.2.1 k c' hk hK).kept (o _ (fun q => e (hA.2.2 _ _ q)))
  · have e : k ≠ a := by omega
    rw [List.getElem?_set_ne (Ne.symm e)] at hk
    exact (hR.2.2.2.1 k c' hk hK).kept (o _ (fun q => e (hA.2.2 _ _ q)))
theorem sx_R.new (hA : sx_A K0 base ua) (hR : sx_R D cl tys ex zs K0 base ua U hs H) : ua hs.length = H.size := by
  have h1 := hA.1 hs.length hR.1
  have h2 := hR.2.1
  omega
theorem sx_R.push (hA : sx_A K0 base ua) (hR : sx_R D cl tys ex zs K0 base ua U hs H) {c : sx_C} {H1 : Heap} (z : H1.size = H.size + 1) (hc : sx_cellS D cl tys ex U ua c H.size H1) (o : ∀ q : Nat, q < H.size → H1[q]? = H[q]?) : sx_R D cl tys ex zs K0 base ua U (hs ++ [c]) H1 := by
  have h1 := hR.1
  have h2 := hR.2.1
  refine ⟨by rw [List.length_append]; omega, by rw [List.length_append, z]; simp only [List.length_singleton]; omega, fun k c' hk hK => ?_, fun k c' hk hK => ?_, hR.2.2.2.2.kept (fun q h _ => o q h)⟩
  · by_cases e : k < hs.length
    · rw [List.getElem?_append_left e] at hk
      exact (hR.2.2.1 k c' hk hK).kept (o _ (hR.lt hA hk))
    · rw [List.getElem?_append_right (by omega)] at hk
      have hz : k - hs.length < 1 := (List.getElem?_eq_some_iff.mp hk).1
      have hke : k = hs.length := by omega
      subst hke
      rw [Nat.sub_self] at hk
      cases hk
      rw [hR.new hA]
      exact hc
  · have e : k < hs.length := by omega
    rw [List.getElem?_append_left e] at hk
    exact (hR.2.2.2.1 k c' hk hK).kept (o _ (hR.lt hA hk))
/-- what the program made is no class's cell of statics -/
theorem sx_R.noStat (hA : sx_A K0 base ua) (hR : sx_R D cl tys ex zs K0 base ua U hs H) {q : Nat} {cell : Cell} (hq : base ≤ q) (hc : H[q]? = some cell) : cell.vm.isStatics = false := by
  have h1 := hR.1
  have h2 := hR.2.1
  have hlt : q < H.size := (Array.getElem?_eq_some_iff.mp hc).1
  have hk : q - base + K0 < hs.length := by omega
  have hu : ua (q - base + K0) = q := by
    have h3 := hA.1 (q - base + K0) (by omega)
    omega
  have hz := hR.2.2.1 (q - base + K0) _ (List.getElem?_eq_getElem hk) (by omega)
  rw [hu] at hz
  generalize hs[q - base + K0] = cc at hz
  obtain ⟨t, x⟩ | ⟨ci, fs⟩ | j := cc
  · obtain ⟨q', g1, g2⟩ := hz
    rw [sx_cellV] at g2
    cases hc.symm.trans g2
    rfl
  · obtain ⟨r, g1, cell', g2, g3, g4, -⟩ := hz
    cases hc.symm.trans g2
    rw [g4]
    rfl
  · obtain ⟨cell', X, g1, g2, g3, -⟩ := hz
    cases hc.symm.trans g2
    exact g3
/-- any array of the abstract heap can be read -/
theorem sx_R.rd (hK : va_K D cl tys U) (hR : sx_R D cl tys ex zs K0 base ua U hs H) {a t : Nat} {x : vp_A} (he : hs[a]? = some (.inl (t, x))) {q : ClassId × FieldType} (ht : tys[t]? = some q) : sx_rd U q.2 x.1 (fun j => sx_up ua (sx_val x j)) (ua a) H := by
  by_cases ha : K0 ≤ a
  · obtain ⟨q', h1, h2⟩ := hR.2.2.1 a _ he ha
    have e : q' = q := Option.some.inj (h1.symm.trans ht)
    subst e
    refine ⟨_, h2, ?_, ?_, ?_, ?_⟩
    · rw [sx_cellV]
      exact (hK.2 t _ ht).1 _ _
    · rw [sx_cellV]
      intro h
      cases h
    · rw [sx_cellV, arrV_size, sx_upA_n]
    · intro j hj
      rw [sx_cellV, arrV_read _ _ (by rw [sx_upA_n]; exact hj), sx_val_up]
  · obtain ⟨q', h1, h2⟩ := hR.2.2.2.1 a _ he (by omega)
    have e : q' = q := Option.some.inj (h1.symm.trans ht)
    subst e
    exact h2
end SXR
theorem sx_one {D : va_G} {cl : List vw_C} {a : Nat} {e : va_E} {H : Heap} (h : va_at D cl (a, e) H) : va_P D cl [(a, e)] H := by
  intro k q hk
  have hz : k < 1 := (List.getElem?_eq_some_iff.mp hk).1
  rw [show k = 0 by omega] at hk
  cases hk
  exact h
theorem sx_narrow (ua : Nat → Nat) (ty : FieldType) (v : Value) : narrow ty (sx_up ua v) = sx_up ua (narrow ty v) := by
  cases ty <;> cases v <;> rfl
theorem sx_fits (ua : Nat → Nat) (ty : FieldType) (v : Value) : fits ty (sx_up ua v) = fits ty v := by
  cases ty <;> cases v <;> rfl
theorem sx_locs {base a i : Nat} {locs : List Loc} (h : ∀ q ∈ locs, base ≤ q.base) (ha : base ≤ a) : ∀ q ∈ locs ++ [(⟨a, i⟩ : Loc)], base ≤ q.base := by
  intro q hq
  rcases List.mem_append.mp hq with h1 | h1
  · exact h q h1
  · rw [List.mem_singleton.mp h1]
    exact ha
section SXH
variable {p : Program} {l : Launch} {e : Env} {R : Room} {s : State} {m : MethodId} {args : Array Value} {below : List Frame} {meth : Method} {c : Code} {H : Heap} {locs : List Loc} {cells slots : Nat} {Q : State → Prop}
variable {cc : ByteArray} {pc nL : Nat} {ls : Array Slot} {st : List Value}
variable {D : va_G} {cl : List vw_C} {tys : List (ClassId × FieldType)} {ex : List String} {zs : List (String × String × String × Value)} {K0 base : Nat} {ua : Nat → Nat} {hs : sx_H}
theorem sx_get (hexec : p.tables.exec = Jvm.exec) (hb : c.code = cc) {own ref C : String} {T : u_T} {N ci index : Nat} {Ts : List Cond} (hts : ∀ w ∈ Ts, w.before args s = true) (hin : ∀ w ∈ u_ws C T N, w ∈ Ts) (hown : s.vm.findClass own = some m.cls) (hK : va_K D cl tys s) (hR : sx_R D cl tys ex zs K0 base ua s hs H) {a : Nat} {fs : List Value} (he : hs[a]? = some (.inr (.inl (ci, fs)))) (ha : K0 ≤ a) (hc : cl[ci]? = some (C, T, N)) (k : Nat) (hk : k < N) (hlink : (Cond.fieldLink own index ref (T k).2.1 (T k).2.2.1).before args s = true) (hsame : ∀ x, s.fieldFound? (T k).1 (T k).2.1 (T k).2.2.1 = some x → s.fieldFound? ref (T k).2.1 (T k).2.2.1 = some x) {v : Value} (hv : fs[k]? = some v) (hdg : decode cc pc = .ok (.getfield index, 3))
    (kk : W p l e R s m args below meth c H locs cells slots Q (F0 m (pc + 3) ls (sx_upS ua (v :: st)))) : W p l e R s m args below meth c H locs cells slots Q (F0 m pc ls (sx_upS ua (.ref a :: st))) :=
  va_get (D := D) (v := sx_up ua v) hexec hb hts hin hown hK (sx_one (D := D) (cl := cl) (a := ua a) (e := .inr (ci, fs.map (sx_up ua))) (hR.2.2.1 a _ he ha)) 0 rfl hc k hk hlink hsame (by rw [List.getElem?_map, hv]; rfl) hdg kk
theorem sx_base (hA : sx_A K0 base ua) {a : Nat} (ha : K0 ≤ a) : base ≤ ua a := by
  have := hA.1 a ha
  omega
theorem sx_mapset (ua : Nat → Nat) (fs : List Value) (k : Nat) (v : Value) : (fs.set k v).map (sx_up ua) = (fs.map (sx_up ua)).set k (sx_up ua v) := List.map_set
theorem sx_put (hexec : p.tables.exec = Jvm.exec) (hb : c.code = cc) {own ref C : String} {T : u_T} {N ci index : Nat} {Ts : List Cond} (hts : ∀ w ∈ Ts, w.before args s = true) (hin : ∀ w ∈ u_ws C T N, w ∈ Ts) (ty0 : Nat → FieldType) (hty : ∀ k, k < N → parseFieldDescriptor (T k).2.2.1 = some (ty0 k)) (hnm : ∀ a, a < N → ∀ b, b < N → a ≠ b → (T a).2.1 ≠ (T b).2.1) (hown : s.vm.findClass own = some m.cls) (hK : va_K D cl tys s) (hA : sx_A K0 base ua) (hR : sx_R D cl tys ex zs K0 base ua s hs H) (hL : ∀ q ∈ locs, base ≤ q.base) {a : Nat} {fs : List Value} (he : hs[a]? = some (.inr (.inl (ci, fs)))) (ha : K0 ≤ a) (hc : cl[ci]? = some (C, T, N)) (k : Nat) (hk : k < N) (hlink : (Cond.fieldLink own index ref (T k).2.1 (T k).2.2.1).before args s = true) (hsame : ∀ x, s.fieldFound? (T k).1 (T k).2.1 (T k).2.2.1 = some x → s.fieldFound? ref (T k).2.1 (T k).2.2.1 = some x) (hfin : (T k).2.2.2 = false) {ty : FieldType} {v : Value} (hd : parseFieldDescriptor (T k).2.2.1 = some ty) (hn : narrow ty v = v) (hfit : fits ty v = true) (hl : k < fs.length)
    (hdg : decode cc pc = .ok (.putfield index, 3)) (kk : ∀ (H1 : Heap) (locs1 : List Loc), sx_R D cl tys ex zs K0 base ua s (hs.set a (.inr (.inl (ci, fs.set k v)))) H1 → (∀ q ∈ locs1, base ≤ q.base) → W p l e R s m args below meth c H1 locs1 cells slots Q (F0 m (pc + 3) ls (sx_upS ua st))) : W p l e R s m args below meth c H locs cells slots Q (F0 m pc ls (sx_upS ua (v :: .ref a :: st))) := by
  have hap := va_apart (own := own) hts hin ty0 hty hnm hK hc
  obtain ⟨r, h1, cell, q1, q2, q3, q4⟩ := hR.2.2.1 a _ he ha
  have hr : r = (C, T, N) := Option.some.inj (h1.symm.trans hc)
  subst hr
  obtain ⟨hS, hfc, kC, hkC, hkind⟩ := hK.1 ci _ hc
  obtain ⟨cf, kf, fi, f, hi, hsl⟩ := hS k hk
  have hlay := hts _ (hin _ (u_in_lay hk))
  unfold u_lay at hlay
  rw [if_neg (by rw [hfin]; decide)] at hlay
  have hst := (u_facts hfc hkC (u_lays hts hin hk) hi).1
  have h6 := u_store (v := sx_up ua v) hfc hkC hkind hlay hi hd (by rw [sx_narrow, hn]) (by rw [sx_fits]; exact hfit)
  refine W.putK (v := sx_up ua v) hexec hb (f := f) ⟨hown, hlink, ⟨_, _, _, hsame _ hi⟩, hst⟩ (by rw [q2]; exact h6) q1 q3 (by rw [hsl]; exact k2_hasslot (q4 k hk)) rfl rfl hdg fun H' e1 e2 e3 => ?_
  rw [hsl] at e1 ⊢
  refine kk H' _ (hR.set hA he ha ⟨_, hc, t_OB.to (V := updV (vp_V (fs.map (sx_up ua))) k (sx_up ua v)) ⟨_, e1, q2, q3, t_set q4 hap hk _⟩ (fun j _ => ?_)⟩ e2 e3) (sx_locs hL (sx_base hA ha))
  rw [sx_mapset]
  exact vp_updV_set (by rw [List.length_map]; exact hl) _ j
theorem sx_putF (hexec : p.tables.exec = Jvm.exec) (hb : c.code = cc) {own ref C : String} {T : u_T} {N ci index : Nat} {Ts : List Cond} (hts : ∀ w ∈ Ts, w.before args s = true) (hin : ∀ w ∈ u_ws C T N, w ∈ Ts) (ty0 : Nat → FieldType) (hty : ∀ k, k < N → parseFieldDescriptor (T k).2.2.1 = some (ty0 k)) (hnm : ∀ a, a < N → ∀ b, b < N → a ≠ b → (T a).2.1 ≠ (T b).2.1) (hown : s.vm.findClass own = some m.cls) (hK : va_K D cl tys s) (hA : sx_A K0 base ua) (hR : sx_R D cl tys ex zs K0 base ua s hs H) (hL : ∀ q ∈ locs, base ≤ q.base) {a : Nat} {fs : List Value} (he : hs[a]? = some (.inr (.inl (ci, fs)))) (ha : K0 ≤ a) (hc : cl[ci]? = some (C, T, N)) (k : Nat) (hk : k < N) (hlink : (Cond.fieldLink own index ref (T k).2.1 (T k).2.2.1).before args s = true) (hsame : ∀ x, s.fieldFound? (T k).1 (T k).2.1 (T k).2.2.1 = some x → s.fieldFound? ref (T k).2.1 (T k).2.2.1 = some x) (hfin : (T k).2.2.2 = true) (hin2 : meth.name = "<init>") (hdecl : (T k).1 = own) {ty : FieldType} {v : Value} (hd : parseFieldDescriptor (T k).2.2.1 = some ty) (hn : narrow ty v = v) (hfit : fits ty v = true) (hl : k < fs.length)
    (hdg : decode cc pc = .ok (.putfield index, 3)) (kk : ∀ (H1 : Heap) (locs1 : List Loc), sx_R D cl tys ex zs K0 base ua s (hs.set a (.inr (.inl (ci, fs.set k v)))) H1 → (∀ q ∈ locs1, base ≤ q.base) → W p l e R s m args below meth c H1 locs1 cells slots Q (F0 m (pc + 3) ls (sx_upS ua st))) : W p l e R s m args below meth c H locs cells slots Q (F0 m pc ls (sx_upS ua (v :: .ref a :: st))) := by
  have hap := va_apart (own := own) hts hin ty0 hty hnm hK hc
  obtain ⟨r, h1, cell, q1, q2, q3, q4⟩ := hR.2.2.1 a _ he ha
  have hr : r = (C, T, N) := Option.some.inj (h1.symm.trans hc)
  subst hr
  obtain ⟨hS, hfc, kC, hkC, hkind⟩ := hK.1 ci _ hc
  obtain ⟨cf, kf, fi, f, hi, hsl⟩ := hS k hk
  have hlay := hts _ (hin _ (u_in_lay hk))
  unfold u_lay at hlay
  rw [if_pos hfin] at hlay
  have hst := (u_facts hfc hkC (u_lays hts hin hk) hi).1
  have hcf : m.cls = cf := by
    obtain ⟨_, _, c', _, _, _, -, -, hf', -, -, -, hown2, -⟩ := Cond.laysFinal_spec hlay
    have e1 : c' = cf := by have := hi.symm.trans hf'; simp at this; exact this.1.symm
    rw [hdecl] at hown2
    rw [← e1]; exact Option.some.inj (hown.symm.trans hown2)
  have h6 := u_fits (v := sx_up ua v) hfc hkC hkind (Or.inr hlay) hi hd (by rw [sx_narrow, hn]) (by rw [sx_fits]; exact hfit)
  refine W.putFinK (v := sx_up ua v) hexec hb hown hlink (hsame _ hi) hst hcf hin2 (by rw [q2]; exact h6) q1 q3 (by rw [hsl]; exact k2_hasslot (q4 k hk)) rfl rfl hdg fun H' e1 e2 e3 => ?_
  rw [hsl] at e1 ⊢
  refine kk H' _ (hR.set hA he ha ⟨_, hc, t_OB.to (V := updV (vp_V (fs.map (sx_up ua))) k (sx_up ua v)) ⟨_, e1, q2, q3, t_set q4 hap hk _⟩ (fun j _ => ?_)⟩ e2 e3) (sx_locs hL (sx_base hA ha))
  rw [sx_mapset]
  exact vp_updV_set (by rw [List.length_map]; exact hl) _ j
theorem sx_new (hexec : p.tables.exec = Jvm.exec) (hb : c.code = cc) {own C : String} {T : u_T} {N ci index : Nat} {Ts : List Cond} (hts : ∀ w ∈ Ts, w.before args s = true) (hin : ∀ w ∈ u_ws C T N, w ∈ Ts) (ty : Nat → FieldType) (hty : ∀ k, k < N → parseFieldDescriptor (T k).2.2.1 = some (ty k)) (hown : s.vm.findClass own = some m.cls) (hcl : (Cond.classLink own index C).before args s = true) (hinst : (Cond.instantiable C N).before args s = true) (hini : (Cond.initialized C).before args s = true)
    (hK : va_K D cl tys s) (hA : sx_A K0 base ua) (hR : sx_R D cl tys ex zs K0 base ua s hs H) (hc : cl[ci]? = some (C, T, N)) {fs : List Value} (hfs : ∀ j, j < N → defaultValue (ty j) = vp_V fs j) (hfu : fs.map (sx_up ua) = fs) (hcells : cells + 1 ≤ R.cells) (hslots : slots + N ≤ R.slots) (hdg : decode cc pc = .ok (.new index, 3))
    (kk : ∀ (H1 : Heap), sx_R D cl tys ex zs K0 base ua s (hs ++ [.inr (.inl (ci, fs))]) H1 → W p l e R s m args below meth c H1 locs (cells + 1) (slots + N) Q (F0 m (pc + 3) ls (sx_upS ua (.ref hs.length :: st)))) : W p l e R s m args below meth c H locs cells slots Q (F0 m pc ls (sx_upS ua st)) := by
  have hKn := hK.1 ci _ hc
  refine W.newcK hexec hb hown hcl hinst hini rfl hdg hcells hslots hKn.2.1 rfl fun H1 kC hkC e1 z1 o1 => ?_
  refine W.eq (g2 := F0 m (pc + 3) ls (sx_upS ua (.ref hs.length :: st))) (by show F0 m (pc + 3) ls (.ref H.size :: sx_upS ua st) = F0 m (pc + 3) ls (.ref (ua hs.length) :: sx_upS ua st); rw [hR.new hA]) ?_
  exact kk H1 (hR.push hA z1 ⟨_, hc, (u_born ty hts hin hKn hkC e1 hty).to (fun j hj => by rw [hfu]; exact hfs j hj)⟩ o1)
end SXH
end
section
/-! THE ABSTRACT HEAP: arrays and static fields -/
section SXV
variable {p : Program} {l : Launch} {e : Env} {R : Room} {s : State} {m : MethodId} {args : Array Value} {below : List Frame} {meth : Method} {c : Code} {H : Heap} {locs : List Loc} {cells slots : Nat} {Q : State → Prop}
variable {cc : ByteArray} {pc nL : Nat} {ls : Array Slot} {st : List Value}
variable {D : va_G} {cl : List vw_C} {tys : List (ClassId × FieldType)} {ex : List String} {zs : List (String × String × String × Value)} {K0 base : Nat} {ua : Nat → Nat} {hs : sx_H}
theorem sx_gets (hexec : p.tables.exec = Jvm.exec) (hb : c.code = cc) {C n d own ref : String} {v : Value} {index : Nat} (hR : sx_R D cl tys ex zs K0 base ua s hs H) (hz : (C, n, d, v) ∈ zs) (hown : s.vm.findClass own = some m.cls) (hlink : (Cond.fieldLink own index ref n d).before args s = true) (hsame : ∀ x, s.fieldFound? C n d = some x → s.fieldFound? ref n d = some x) (hdg : decode cc pc = .ok (.getstatic index, 3))
    (kk : W p l e R s m args below meth c H locs cells slots Q (F0 m (pc + 3) ls (sx_upS ua (v :: st)))) : W p l e R s m args below meth c H locs cells slots Q (F0 m pc ls (sx_upS ua st)) := by
  obtain ⟨cf, kf, fi, f, a, cell, h1, h2, h3, h4, h5, h6, h7, h8⟩ := hR.2.2.2.2.1 _ hz
  exact W.gets hexec hb hown hlink (hsame _ h1) h2 h3 h4 h5 (fun e => by rw [e] at h6; cases h6) h7 rfl hdg kk
theorem sx_alen (hexec : p.tables.exec = Jvm.exec) (hb : c.code = cc) (hK : va_K D cl tys s) (hR : sx_R D cl tys ex zs K0 base ua s hs H) {a t : Nat} {x : vp_A} (he : hs[a]? = some (.inl (t, x))) {q : ClassId × FieldType} (ht : tys[t]? = some q) (hdg : decode cc pc = .ok (.arraylength, 1))
    (kk : W p l e R s m args below meth c H locs cells slots Q (F0 m (pc + 1) ls (sx_upS ua (.int (Int32.ofNat x.1) :: st)))) : W p l e R s m args below meth c H locs cells slots Q (F0 m pc ls (sx_upS ua (.ref a :: st))) := by
  obtain ⟨scr, h1, h2, h3, h4, h5⟩ := hR.rd hK he ht
  exact W.alen (n := Int32.ofNat x.1) hexec hb h1 h2 (by rw [h4] <;> rfl) rfl rfl hdg kk
theorem sx_iald (hexec : p.tables.exec = Jvm.exec) (hb : c.code = cc) (hK : va_K D cl tys s) (hR : sx_R D cl tys ex zs K0 base ua s hs H) {a t : Nat} {x : vp_A} (he : hs[a]? = some (.inl (t, x))) {q : ClassId × FieldType} (ht : tys[t]? = some q) (hq : q.2 = .int) {i : Int32} (hin : vp_in i x.1) (hdg : decode cc pc = .ok (.iaload, 1))
    (kk : W p l e R s m args below meth c H locs cells slots Q (F0 m (pc + 1) ls (sx_upS ua (sx_val x i.toNatClampNeg :: st)))) : W p l e R s m args below meth c H locs cells slots Q (F0 m pc ls (sx_upS ua (.int i :: .ref a :: st))) := by
  obtain ⟨scr, h1, h2, h3, h4, h5⟩ := hR.rd hK he ht
  rw [hq] at h2
  exact W.iald (v := sx_up ua (sx_val x i.toNatClampNeg)) hexec hb h1 h2 h3 (by rw [h4]; exact hin) (h5 _ (Nat.not_le.mp fun z => hin (Or.inr z))) rfl rfl hdg kk
theorem sx_bald (hexec : p.tables.exec = Jvm.exec) (hb : c.code = cc) (hK : va_K D cl tys s) (hR : sx_R D cl tys ex zs K0 base ua s hs H) {a t : Nat} {x : vp_A} (he : hs[a]? = some (.inl (t, x))) {q : ClassId × FieldType} (ht : tys[t]? = some q) (hq : q.2 = .byte) {i : Int32} (hin : vp_in i x.1) (hdg : decode cc pc = .ok (.baload, 1))
    (kk : W p l e R s m args below meth c H locs cells slots Q (F0 m (pc + 1) ls (sx_upS ua (sx_val x i.toNatClampNeg :: st)))) : W p l e R s m args below meth c H locs cells slots Q (F0 m pc ls (sx_upS ua (.int i :: .ref a :: st))) := by
  obtain ⟨scr, h1, h2, h3, h4, h5⟩ := hR.rd hK he ht
  rw [hq] at h2
  exact W.bald (v := sx_up ua (sx_val x i.toNatClampNeg)) hexec hb h1 h2 h3 (by rw [h4]; exact hin) (h5 _ (Nat.not_le.mp fun z => hin (Or.inr z))) rfl rfl hdg kk
theorem sx_zald (hexec : p.tables.exec = Jvm.exec) (hb : c.code = cc) (hK : va_K D cl tys s) (hR : sx_R D cl tys ex zs K0 base ua s hs H) {a t : Nat} {x : vp_A} (he : hs[a]? = some (.inl (t, x))) {q : ClassId × FieldType} (ht : tys[t]? = some q) (hq : q.2 = .boolean) {i : Int32} (hin : vp_in i x.1) (hdg : decode cc pc = .ok (.baload, 1))
    (kk : W p l e R s m args below meth c H locs cells slots Q (F0 m (pc + 1) ls (sx_upS ua (sx_val x i.toNatClampNeg :: st)))) : W p l e R s m args below meth c H locs cells slots Q (F0 m pc ls (sx_upS ua (.int i :: .ref a :: st))) := by
  obtain ⟨scr, h1, h2, h3, h4, h5⟩ := hR.rd hK he ht
  rw [hq] at h2
  exact W.zald (v := sx_up ua (sx_val x i.toNatClampNeg)) hexec hb h1 h2 h3 (by rw [h4]; exact hin) (h5 _ (Nat.not_le.mp fun z => hin (Or.inr z))) rfl rfl hdg kk
theorem sx_cald (hexec : p.tables.exec = Jvm.exec) (hb : c.code = cc) (hK : va_K D cl tys s) (hR : sx_R D cl tys ex zs K0 base ua s hs H) {a t : Nat} {x : vp_A} (he : hs[a]? = some (.inl (t, x))) {q : ClassId × FieldType} (ht : tys[t]? = some q) (hq : q.2 = .char) {i : Int32} (hin : vp_in i x.1) (hdg : decode cc pc = .ok (.caload, 1))
    (kk : W p l e R s m args below meth c H locs cells slots Q (F0 m (pc + 1) ls (sx_upS ua (sx_val x i.toNatClampNeg :: st)))) : W p l e R s m args below meth c H locs cells slots Q (F0 m pc ls (sx_upS ua (.int i :: .ref a :: st))) := by
  obtain ⟨scr, h1, h2, h3, h4, h5⟩ := hR.rd hK he ht
  rw [hq] at h2
  exact W.cald (v := sx_up ua (sx_val x i.toNatClampNeg)) hexec hb h1 h2 h3 (by rw [h4]; exact hin) (h5 _ (Nat.not_le.mp fun z => hin (Or.inr z))) rfl rfl hdg kk
theorem sx_lald (hexec : p.tables.exec = Jvm.exec) (hb : c.code = cc) (hK : va_K D cl tys s) (hR : sx_R D cl tys ex zs K0 base ua s hs H) {a t : Nat} {x : vp_A} (he : hs[a]? = some (.inl (t, x))) {q : ClassId × FieldType} (ht : tys[t]? = some q) (hq : q.2 = .long) {i : Int32} (hin : vp_in i x.1) (hdg : decode cc pc = .ok (.laload, 1))
    (kk : W p l e R s m args below meth c H locs cells slots Q (F0 m (pc + 1) ls (sx_upS ua (sx_val x i.toNatClampNeg :: st)))) : W p l e R s m args below meth c H locs cells slots Q (F0 m pc ls (sx_upS ua (.int i :: .ref a :: st))) := by
  obtain ⟨scr, h1, h2, h3, h4, h5⟩ := hR.rd hK he ht
  rw [hq] at h2
  exact W.lald (v := sx_up ua (sx_val x i.toNatClampNeg)) hexec hb h1 h2 h3 (by rw [h4]; exact hin) (h5 _ (Nat.not_le.mp fun z => hin (Or.inr z))) rfl rfl hdg kk
theorem sx_aald (hexec : p.tables.exec = Jvm.exec) (hb : c.code = cc) (hK : va_K D cl tys s) (hR : sx_R D cl tys ex zs K0 base ua s hs H) {a t : Nat} {x : vp_A} (he : hs[a]? = some (.inl (t, x))) {q : ClassId × FieldType} (ht : tys[t]? = some q) (hq : q.2.isReference = true) {i : Int32} (hin : vp_in i x.1) (hdg : decode cc pc = .ok (.aaload, 1))
    (kk : W p l e R s m args below meth c H locs cells slots Q (F0 m (pc + 1) ls (sx_upS ua (sx_val x i.toNatClampNeg :: st)))) : W p l e R s m args below meth c H locs cells slots Q (F0 m pc ls (sx_upS ua (.int i :: .ref a :: st))) := by
  obtain ⟨scr, h1, h2, h3, h4, h5⟩ := hR.rd hK he ht
  exact W.aald (v := sx_up ua (sx_val x i.toNatClampNeg)) hexec hb h1 h2 hq h3 (by rw [h4]; exact hin) (h5 _ (Nat.not_le.mp fun z => hin (Or.inr z))) rfl rfl hdg kk
theorem sx_iast (hexec : p.tables.exec = Jvm.exec) (hb : c.code = cc) (hK : va_K D cl tys s) (hA : sx_A K0 base ua) (hR : sx_R D cl tys ex zs K0 base ua s hs H) (hL : ∀ q ∈ locs, base ≤ q.base) {a t n : Nat} {f : Nat → Int32} (he : hs[a]? = some (.inl (t, (n, .inl f)))) (ha : K0 ≤ a) {q : ClassId × FieldType} (ht : tys[t]? = some q) (hq : q.2 = .int) {i : Int32} {x : Int32} (hin : vp_in i n) (hdg : decode cc pc = .ok (.iastore, 1))
    (kk : ∀ (H1 : Heap) (locs1 : List Loc), sx_R D cl tys ex zs K0 base ua s (hs.set a (.inl (t, (n, .inl (upd f i.toNatClampNeg x))))) H1 → (∀ q ∈ locs1, base ≤ q.base) → W p l e R s m args below meth c H1 locs1 cells slots Q (F0 m (pc + 1) ls (sx_upS ua st))) : W p l e R s m args below meth c H locs cells slots Q (F0 m pc ls (sx_upS ua (.int x :: .int i :: .ref a :: st))) := by
  obtain ⟨q', e1, e2⟩ := hR.2.2.1 a _ he ha
  have e0 : q' = q := Option.some.inj (e1.symm.trans ht)
  subst e0
  have e3 : H[ua a]? = some (arrV q'.1 n (fun j => .int (f j))) := e2
  have har : s.isArrayOf (arrV q'.1 n (fun j => .int (f j))) .int := by rw [← hq]; exact (hK.2 t _ ht).1 _ _
  refine W.iast hexec hb e3 har (fun z => by cases z) (by rw [arrV_size]; exact hin) rfl rfl hdg fun H1 g z oq => ?_
  refine kk H1 _ (hR.set hA he ha ⟨q', e1, ?_⟩ z oq) (sx_locs hL (sx_base hA ha))
  show H1[ua a]? = some (arrV q'.1 n (fun j => .int ((upd f i.toNatClampNeg x) j)))
  rw [g, arrV_store]
  congr 2
  funext y
  by_cases hy : y = i.toNatClampNeg
  · subst hy
    simp [updV, upd]
    try rfl
  · simp [updV, upd, hy]
theorem sx_bast (hexec : p.tables.exec = Jvm.exec) (hb : c.code = cc) (hK : va_K D cl tys s) (hA : sx_A K0 base ua) (hR : sx_R D cl tys ex zs K0 base ua s hs H) (hL : ∀ q ∈ locs, base ≤ q.base) {a t n : Nat} {f : Nat → Int32} (he : hs[a]? = some (.inl (t, (n, .inl f)))) (ha : K0 ≤ a) {q : ClassId × FieldType} (ht : tys[t]? = some q) (hq : q.2 = .byte) {i : Int32} {x : Int32} (hin : vp_in i n) (hdg : decode cc pc = .ok (.bastore, 1))
    (kk : ∀ (H1 : Heap) (locs1 : List Loc), sx_R D cl tys ex zs K0 base ua s (hs.set a (.inl (t, (n, .inl (upd f i.toNatClampNeg (vp_nar .byte x)))))) H1 → (∀ q ∈ locs1, base ≤ q.base) → W p l e R s m args below meth c H1 locs1 cells slots Q (F0 m (pc + 1) ls (sx_upS ua st))) : W p l e R s m args below meth c H locs cells slots Q (F0 m pc ls (sx_upS ua (.int x :: .int i :: .ref a :: st))) := by
  obtain ⟨q', e1, e2⟩ := hR.2.2.1 a _ he ha
  have e0 : q' = q := Option.some.inj (e1.symm.trans ht)
  subst e0
  have e3 : H[ua a]? = some (arrV q'.1 n (fun j => .int (f j))) := e2
  have har : s.isArrayOf (arrV q'.1 n (fun j => .int (f j))) .byte := by rw [← hq]; exact (hK.2 t _ ht).1 _ _
  refine W.bast hexec hb e3 har (fun z => by cases z) (by rw [arrV_size]; exact hin) rfl rfl hdg fun H1 g z oq => ?_
  refine kk H1 _ (hR.set hA he ha ⟨q', e1, ?_⟩ z oq) (sx_locs hL (sx_base hA ha))
  show H1[ua a]? = some (arrV q'.1 n (fun j => .int ((upd f i.toNatClampNeg (vp_nar .byte x)) j)))
  rw [g, arrV_store]
  congr 2
  funext y
  by_cases hy : y = i.toNatClampNeg
  · subst hy
    simp [updV, upd, vp_nar, narrow]
    try rfl
  · simp [updV, upd, vp_nar, narrow, hy]
theorem sx_zast (hexec : p.tables.exec = Jvm.exec) (hb : c.code = cc) (hK : va_K D cl tys s) (hA : sx_A K0 base ua) (hR : sx_R D cl tys ex zs K0 base ua s hs H) (hL : ∀ q ∈ locs, base ≤ q.base) {a t n : Nat} {f : Nat → Int32} (he : hs[a]? = some (.inl (t, (n, .inl f)))) (ha : K0 ≤ a) {q : ClassId × FieldType} (ht : tys[t]? = some q) (hq : q.2 = .boolean) {i : Int32} {x : Int32} (hin : vp_in i n) (hdg : decode cc pc = .ok (.bastore, 1))
    (kk : ∀ (H1 : Heap) (locs1 : List Loc), sx_R D cl tys ex zs K0 base ua s (hs.set a (.inl (t, (n, .inl (upd f i.toNatClampNeg (vp_nar .boolean x)))))) H1 → (∀ q ∈ locs1, base ≤ q.base) → W p l e R s m args below meth c H1 locs1 cells slots Q (F0 m (pc + 1) ls (sx_upS ua st))) : W p l e R s m args below meth c H locs cells slots Q (F0 m pc ls (sx_upS ua (.int x :: .int i :: .ref a :: st))) := by
  obtain ⟨q', e1, e2⟩ := hR.2.2.1 a _ he ha
  have e0 : q' = q := Option.some.inj (e1.symm.trans ht)
  subst e0
  have e3 : H[ua a]? = some (arrV q'.1 n (fun j => .int (f j))) := e2
  have har : s.isArrayOf (arrV q'.1 n (fun j => .int (f j))) .boolean := by rw [← hq]; exact (hK.2 t _ ht).1 _ _
  refine W.zast hexec hb e3 har (fun z => by cases z) (by rw [arrV_size]; exact hin) rfl rfl hdg fun H1 g z oq => ?_
  refine kk H1 _ (hR.set hA he ha ⟨q', e1, ?_⟩ z oq) (sx_locs hL (sx_base hA ha))
  show H1[ua a]? = some (arrV q'.1 n (fun j => .int ((upd f i.toNatClampNeg (vp_nar .boolean x)) j)))
  rw [g, arrV_store]
  congr 2
  funext y
  by_cases hy : y = i.toNatClampNeg
  · subst hy
    simp [updV, upd, vp_nar, narrow]
    try rfl
  · simp [updV, upd, vp_nar, narrow, hy]
theorem sx_cast (hexec : p.tables.exec = Jvm.exec) (hb : c.code = cc) (hK : va_K D cl tys s) (hA : sx_A K0 base ua) (hR : sx_R D cl tys ex zs K0 base ua s hs H) (hL : ∀ q ∈ locs, base ≤ q.base) {a t n : Nat} {f : Nat → Int32} (he : hs[a]? = some (.inl (t, (n, .inl f)))) (ha : K0 ≤ a) {q : ClassId × FieldType} (ht : tys[t]? = some q) (hq : q.2 = .char) {i : Int32} {x : Int32} (hin : vp_in i n) (hdg : decode cc pc = .ok (.castore, 1))
    (kk : ∀ (H1 : Heap) (locs1 : List Loc), sx_R D cl tys ex zs K0 base ua s (hs.set a (.inl (t, (n, .inl (upd f i.toNatClampNeg (vp_nar .char x)))))) H1 → (∀ q ∈ locs1, base ≤ q.base) → W p l e R s m args below meth c H1 locs1 cells slots Q (F0 m (pc + 1) ls (sx_upS ua st))) : W p l e R s m args below meth c H locs cells slots Q (F0 m pc ls (sx_upS ua (.int x :: .int i :: .ref a :: st))) := by
  obtain ⟨q', e1, e2⟩ := hR.2.2.1 a _ he ha
  have e0 : q' = q := Option.some.inj (e1.symm.trans ht)
  subst e0
  have e3 : H[ua a]? = some (arrV q'.1 n (fun j => .int (f j))) := e2
  have har : s.isArrayOf (arrV q'.1 n (fun j => .int (f j))) .char := by rw [← hq]; exact (hK.2 t _ ht).1 _ _
  refine W.cast hexec hb e3 har (fun z => by cases z) (by rw [arrV_size]; exact hin) rfl rfl hdg fun H1 g z oq => ?_
  refine kk H1 _ (hR.set hA he ha ⟨q', e1, ?_⟩ z oq) (sx_locs hL (sx_base hA ha))
  show H1[ua a]? = some (arrV q'.1 n (fun j => .int ((upd f i.toNatClampNeg (vp_nar .char x)) j)))
  rw [g, arrV_store]
  congr 2
  funext y
  by_cases hy : y = i.toNatClampNeg
  · subst hy
    simp [updV, upd, vp_nar, narrow]
    try rfl
  · simp [updV, upd, vp_nar, narrow, hy]
theorem sx_last (hexec : p.tables.exec = Jvm.exec) (hb : c.code = cc) (hK : va_K D cl tys s) (hA : sx_A K0 base ua) (hR : sx_R D cl tys ex zs K0 base ua s hs H) (hL : ∀ q ∈ locs, base ≤ q.base) {a t n : Nat} {f : Nat → Int64} (he : hs[a]? = some (.inl (t, (n, .inr (.inl f))))) (ha : K0 ≤ a) {q : ClassId × FieldType} (ht : tys[t]? = some q) (hq : q.2 = .long) {i : Int32} {x : Int64} (hin : vp_in i n) (hdg : decode cc pc = .ok (.lastore, 1))
    (kk : ∀ (H1 : Heap) (locs1 : List Loc), sx_R D cl tys ex zs K0 base ua s (hs.set a (.inl (t, (n, .inr (.inl (vp_updL f i.toNatClampNeg x)))))) H1 → (∀ q ∈ locs1, base ≤ q.base) → W p l e R s m args below meth c H1 locs1 cells slots Q (F0 m (pc + 1) ls (sx_upS ua st))) : W p l e R s m args below meth c H locs cells slots Q (F0 m pc ls (sx_upS ua (.long x :: .int i :: .ref a :: st))) := by
  obtain ⟨q', e1, e2⟩ := hR.2.2.1 a _ he ha
  have e0 : q' = q := Option.some.inj (e1.symm.trans ht)
  subst e0
  have e3 : H[ua a]? = some (arrV q'.1 n (fun j => .long (f j))) := e2
  have har : s.isArrayOf (arrV q'.1 n (fun j => .long (f j))) .long := by rw [← hq]; exact (hK.2 t _ ht).1 _ _
  refine W.last hexec hb e3 har (fun z => by cases z) (by rw [arrV_size]; exact hin) rfl rfl hdg fun H1 g z oq => ?_
  refine kk H1 _ (hR.set hA he ha ⟨q', e1, ?_⟩ z oq) (sx_locs hL (sx_base hA ha))
  show H1[ua a]? = some (arrV q'.1 n (fun j => .long ((vp_updL f i.toNatClampNeg x) j)))
  rw [g, arrV_store]
  congr 2
  funext y
  by_cases hy : y = i.toNatClampNeg
  · subst hy
    simp [updV, vp_updL]
    try rfl
  · simp [updV, vp_updL, hy]
theorem sx_aast (hexec : p.tables.exec = Jvm.exec) (hb : c.code = cc) (hK : va_K D cl tys s) (hA : sx_A K0 base ua) (hR : sx_R D cl tys ex zs K0 base ua s hs H) (hL : ∀ q ∈ locs, base ≤ q.base) {a t n : Nat} {f : Nat → Option Nat} (he : hs[a]? = some (.inl (t, (n, .inr (.inr (.inr (.inr f))))))) (ha : K0 ≤ a) {cA : ClassId} {E : String} (ht : tys[t]? = some (cA, .object E)) {v ci : Nat} {vs : List Value} {r : vw_C} (hv : hs[v]? = some (.inr (.inl (ci, vs)))) (hvK : K0 ≤ v) (hc : cl[ci]? = some r) (hca : r.1 = E ∨ va_Nw (.castable r.1 E) s) {i : Int32} (hin : vp_in i n) (hdg : decode cc pc = .ok (.aastore, 1))
    (kk : ∀ (H1 : Heap) (locs1 : List Loc), sx_R D cl tys ex zs K0 base ua s (hs.set a (.inl (t, (n, .inr (.inr (.inr (.inr (va_up f i.toNatClampNeg (some v))))))))) H1 → (∀ q ∈ locs1, base ≤ q.base) → W p l e R s m args below meth c H1 locs1 cells slots Q (F0 m (pc + 1) ls (sx_upS ua st))) : W p l e R s m args below meth c H locs cells slots Q (F0 m pc ls (sx_upS ua (.ref v :: .int i :: .ref a :: st))) := by
  obtain ⟨q', e1, e2⟩ := hR.2.2.1 a _ he ha
  have e0 : q' = (cA, .object E) := Option.some.inj (e1.symm.trans ht)
  subst e0
  have e3 : H[ua a]? = some (arrV cA n (fun j => va_rf ((f j).map ua))) := e2
  have hlt : i.toNatClampNeg < n := Nat.not_le.mp fun q => hin (Or.inr q)
  have h0 : ¬ i < 0 := fun q => hin (Or.inl q)
  obtain ⟨r', hr', cellV, g1, g2, g3, -⟩ := hR.2.2.1 v _ hv hvK
  have hcls := (hK.1 ci r hc).2
  obtain ⟨kA, comp, k1, k2, k3, -⟩ := (hK.2 t _ ht).2
  obtain ⟨kE, hkE, -⟩ := Vm.findClass_spec k3
  have hasg : s.vm.assignable (D.1 ci) comp = true := by
    rcases hca with hca | hca
    · have hcomp : comp = D.1 ci := by rw [← hca] at k3; exact Option.some.inj (k3.symm.trans hcls.1)
      rw [hcomp]
      exact va_assign hcls
    · obtain ⟨c0, t1, f1, f2, f3⟩ := Cond.castable_spec (va_Nw.use (A := args) rfl hca)
      cases hcls.1.symm.trans f1
      cases k3.symm.trans f2
      exact f3
  obtain ⟨kC, hkC, -⟩ := hcls.2
  refine W.aast hexec hb e3 (fun q h => by cases h) (fun h => by cases h) k1 k2 rfl hkE ⟨h0, by rw [arrV_size]; exact hlt⟩ g1 (fun q h => by rw [g3] at h; cases h) (by rw [g2]; exact hkC) (by rw [g2]; exact hasg) rfl rfl hdg fun H1 g z oq => ?_
  refine kk H1 _ (hR.set hA he ha ⟨(cA, .object E), ht, ?_⟩ z oq) (sx_locs hL (sx_base hA ha))
  show H1[ua a]? = some (arrV cA n (fun j => va_rf ((va_up f i.toNatClampNeg (some v) j).map ua)))
  rw [g, arrV_store]
  congr 2
  funext y
  by_cases hy : y = i.toNatClampNeg
  · subst hy
    simp [updV, va_up, va_rf]
  · simp [updV, va_up, hy]
theorem sx_aastN (hexec : p.tables.exec = Jvm.exec) (hb : c.code = cc) (hK : va_K D cl tys s) (hA : sx_A K0 base ua) (hR : sx_R D cl tys ex zs K0 base ua s hs H) (hL : ∀ q ∈ locs, base ≤ q.base) {a t n : Nat} {f : Nat → Option Nat} (he : hs[a]? = some (.inl (t, (n, .inr (.inr (.inr (.inr f))))))) (ha : K0 ≤ a) {cA : ClassId} {E : String} (ht : tys[t]? = some (cA, .object E)) {i : Int32} (hin : vp_in i n) (hdg : decode cc pc = .ok (.aastore, 1))
    (kk : ∀ (H1 : Heap) (locs1 : List Loc), sx_R D cl tys ex zs K0 base ua s (hs.set a (.inl (t, (n, .inr (.inr (.inr (.inr (va_up f i.toNatClampNeg none)))))))) H1 → (∀ q ∈ locs1, base ≤ q.base) → W p l e R s m args below meth c H1 locs1 cells slots Q (F0 m (pc + 1) ls (sx_upS ua st))) : W p l e R s m args below meth c H locs cells slots Q (F0 m pc ls (sx_upS ua (.null :: .int i :: .ref a :: st))) := by
  obtain ⟨q', e1, e2⟩ := hR.2.2.1 a _ he ha
  have e0 : q' = (cA, .object E) := Option.some.inj (e1.symm.trans ht)
  subst e0
  have e3 : H[ua a]? = some (arrV cA n (fun j => va_rf ((f j).map ua))) := e2
  refine va_WaastN (C := E) hexec hb e3 ((hK.2 t _ ht).1 _ _) (fun h => by cases h) (by rw [arrV_size]; exact hin) rfl rfl hdg fun H1 g z oq => ?_
  refine kk H1 _ (hR.set hA he ha ⟨(cA, .object E), ht, ?_⟩ z oq) (sx_locs hL (sx_base hA ha))
  show H1[ua a]? = some (arrV cA n (fun j => va_rf ((va_up f i.toNatClampNeg none j).map ua)))
  rw [g, arrV_store]
  congr 2
  funext y
  by_cases hy : y = i.toNatClampNeg
  · subst hy
    simp [updV, va_up, va_rf]
  · simp [updV, va_up, hy]
theorem sx_newa (hexec : p.tables.exec = Jvm.exec) (hb : c.code = cc) {atype : ArrayType} (harr : (Cond.arrayClass (newarray.typeOf atype)).before args s = true) (hK : va_K D cl tys s) (hA : sx_A K0 base ua) (hR : sx_R D cl tys ex zs K0 base ua s hs H) {t : Nat} {cT : ClassId} (ht : tys[t]? = some (cT, newarray.typeOf atype))
    {n : Int32} {N : Nat} {x : vp_A} (hx : ∀ cA : ClassId, vp_cell cA (sx_upA ua x) = arrV cA N (fun _ => defaultValue (newarray.typeOf atype))) (hn : ¬ n < 0) (hN : n.toNatClampNeg = N) (hbytes : N * componentBytes (newarray.typeOf atype) ≤ 536870912) (hcells : cells + 1 ≤ R.cells) (hslots : slots + N ≤ R.slots) (hdg : decode cc pc = .ok (.newarray atype, 2))
    (kk : ∀ (H1 : Heap), sx_R D cl tys ex zs K0 base ua s (hs ++ [.inl (t, x)]) H1 → W p l e R s m args below meth c H1 locs (cells + 1) (slots + N) Q (F0 m (pc + 2) ls (sx_upS ua (.ref hs.length :: st)))) : W p l e R s m args below meth c H locs cells slots Q (F0 m pc ls (sx_upS ua (.int n :: st))) := by
  refine va_newaK hexec hb harr rfl hdg rfl hn hN hbytes hcells hslots rfl fun H1 cA e1 z1 o1 hAr hNm => ?_
  have hca : cA = cT := by
    have h1 := (hK.2 t _ ht).2
    cases atype <;> exact Option.some.inj (hNm.symm.trans h1)
  subst hca
  refine W.eq (g2 := F0 m (pc + 2) ls (sx_upS ua (.ref hs.length :: st))) (by show F0 m (pc + 2) ls (.ref H.size :: sx_upS ua st) = F0 m (pc + 2) ls (.ref (ua hs.length) :: sx_upS ua st); rw [hR.new hA]) ?_
  exact kk H1 (hR.push hA z1 ⟨_, ht, by rw [hx]; exact e1⟩ o1)
theorem sx_newq (hexec : p.tables.exec = Jvm.exec) (hb : c.code = cc) {own C : String} {index : Nat} (hown : s.vm.findClass own = some m.cls) (hclink : (Cond.classLink own index C).before args s = true) (hover : (Cond.arrayOver (.object C)).before args s = true) (hK : va_K D cl tys s) (hA : sx_A K0 base ua) (hR : sx_R D cl tys ex zs K0 base ua s hs H) {t : Nat} {cT : ClassId} (ht : tys[t]? = some (cT, .object C))
    {n : Int32} {N : Nat} (hn : ¬ n < 0) (hN : n.toNatClampNeg = N) (hbytes : N * 4 ≤ 536870912) (hcells : cells + 1 ≤ R.cells) (hslots : slots + N ≤ R.slots) (hdg : decode cc pc = .ok (.anewarray index, 3))
    (kk : ∀ (H1 : Heap), sx_R D cl tys ex zs K0 base ua s (hs ++ [.inl (t, (N, .inr (.inr (.inr (.inr (fun _ => none))))))]) H1 → W p l e R s m args below meth c H1 locs (cells + 1) (slots + N) Q (F0 m (pc + 3) ls (sx_upS ua (.ref hs.length :: st)))) : W p l e R s m args below meth c H locs cells slots Q (F0 m pc ls (sx_upS ua (.int n :: st))) := by
  subst hN
  refine W.anew hexec hb hown hclink hover rfl hdg rfl hn hbytes hcells hslots fun cA kA comp f1 f2 f3 f4 => ?_
  generalize hH1 : H.push ({ cls := cA, slots := Array.replicate n.toNatClampNeg .null, vm := .none } : Cell) = H1
  have z1 : H1.size = H.size + 1 := by rw [← hH1, Array.size_push]
  have e1 : H1[H.size]? = some (arrV cA n.toNatClampNeg (fun _ => .null)) := by rw [← hH1, Array.getElem?_push_size, ← arrV_new]
  have o1 : ∀ q : Nat, q < H.size → H1[q]? = H[q]? := fun q hq => by rw [← hH1, Array.getElem?_push, if_neg (Nat.ne_of_lt hq)]
  have hca : cA = cT := by
    obtain ⟨kA', comp', k1, k2, k3, k4⟩ := (hK.2 t _ ht).2
    exact Option.some.inj (f1.symm.trans k4)
  subst hca
  refine W.eq (g2 := F0 m (pc + 3) ls (sx_upS ua (.ref hs.length :: st))) (by show F0 m (pc + 3) ls (.ref H.size :: sx_upS ua st) = F0 m (pc + 3) ls (.ref (ua hs.length) :: sx_upS ua st); rw [hR.new hA]) ?_
  exact kk H1 (hR.push hA z1 ⟨_, ht, e1⟩ o1)
end SXV
end
section
/-! THE ABSTRACT MACHINE: instructions on the heap. st: stack; hs: heap; the last two numbers: cells and slots that are made -/
abbrev sx_S : Type := sx_F × sx_H × Nat × Nat
def sx_popR (st : List Value) : Option (Nat × List Value) := match st with
  | .ref x :: r => some (x, r)
  | _ => none
def sx_popI (st : List Value) : Option (Int32 × List Value) := match st with
  | .int x :: r => some (x, r)
  | _ => none
def sx_popL (st : List Value) : Option (Int64 × List Value) := match st with
  | .long x :: r => some (x, r)
  | _ => none
def sx_pop (st : List Value) : Option (Value × List Value) := match st with
  | v :: r => some (v, r)
  | [] => none
def sx_obj (hs : sx_H) (x : Nat) : Option (Nat × List Value) := match hs[x]? with
  | some (.inr (.inl o)) => some o
  | _ => none
def sx_arr (hs : sx_H) (x : Nat) : Option (Nat × vp_A) := match hs[x]? with
  | some (.inl o) => some o
  | _ => none
def sx_ai (x : vp_A) : Option (Nat → Int32) := match x.2 with
  | .inl f => some f
  | _ => none
def sx_al (x : vp_A) : Option (Nat → Int64) := match x.2 with
  | .inr (.inl f) => some f
  | _ => none
def sx_aq (x : vp_A) : Option (Nat → Option Nat) := match x.2 with
  | .inr (.inr (.inr (.inr f))) => some f
  | _ => none
theorem sx_popR_inv {st : List Value} {x : Nat} {r : List Value} (h : sx_popR st = some (x, r)) : st = .ref x :: r := by
  unfold sx_popR at h
  split at h
  · cases h; rfl
  · cases h
theorem sx_popI_inv {st : List Value} {x : Int32} {r : List Value} (h : sx_popI st = some (x, r)) : st = .int x :: r := by
  unfold sx_popI at h
  split at h
  · cases h; rfl
  · cases h
theorem sx_popL_inv {st : List Value} {x : Int64} {r : List Value} (h : sx_popL st = some (x, r)) : st = .long x :: r := by
  unfold sx_popL at h
  split at h
  · cases h; rfl
  · cases h
theorem sx_pop_inv {st : List Value} {x : Value} {r : List Value} (h : sx_pop st = some (x, r)) : st = x :: r := by
  unfold sx_pop at h
  split at h
  · cases h; rfl
  · cases h
theorem sx_obj_inv {hs : sx_H} {x : Nat} {o : Nat × List Value} (h : sx_obj hs x = some o) : hs[x]? = some (.inr (.inl o)) := by
  unfold sx_obj at h
  split at h
  · rename_i o' ho
    cases h
    exact ho
  · cases h
theorem sx_arr_inv {hs : sx_H} {x : Nat} {o : Nat × vp_A} (h : sx_arr hs x = some o) : hs[x]? = some (.inl o) := by
  unfold sx_arr at h
  split at h
  · rename_i o' ho
    cases h
    exact ho
  · cases h
theorem sx_ai_inv {x : vp_A} {f : Nat → Int32} (h : sx_ai x = some f) : x = (x.1, .inl f) := by
  obtain ⟨n, y⟩ := x
  unfold sx_ai at h
  split at h
  · rename_i g hg
    cases h
    exact congrArg (Prod.mk n) hg
  · cases h
theorem sx_al_inv {x : vp_A} {f : Nat → Int64} (h : sx_al x = some f) : x = (x.1, .inr (.inl f)) := by
  obtain ⟨n, y⟩ := x
  unfold sx_al at h
  split at h
  · rename_i g hg
    cases h
    exact congrArg (Prod.mk n) hg
  · cases h
theorem sx_aq_inv {x : vp_A} {f : Nat → Option Nat} (h : sx_aq x = some f) : x = (x.1, .inr (.inr (.inr (.inr f)))) := by
  obtain ⟨n, y⟩ := x
  unfold sx_aq at h
  split at h
  · rename_i g hg
    cases h
    exact congrArg (Prod.mk n) hg
  · cases h
def sx_fit (ty : FieldType) (v : Value) : Bool := match ty, v with
  | .int, .int _ => true
  | .long, .long _ => true
  | .boolean, .int x => x == 0 || x == 1
  | .byte, .int x => x.toInt8.toInt32 == x
  | .object _, .ref _ => true
  | .object _, .null => true
  | .array _, .ref _ => true
  | .array _, .null => true
  | _, _ => false
theorem sx_fit_ok {ty : FieldType} {v : Value} (h : sx_fit ty v = true) : narrow ty v = v ∧ fits ty v = true := by
  unfold sx_fit at h
  split at h
  · exact ⟨rfl, rfl⟩
  · exact ⟨rfl, rfl⟩
  · rename_i x
    simp only [Bool.or_eq_true, beq_iff_eq] at h
    rcases h with rfl | rfl
    · exact ⟨rfl, rfl⟩
    · exact ⟨rfl, rfl⟩
  · rename_i x
    simp only [beq_iff_eq] at h
    refine ⟨by show Value.int _ = Value.int x; rw [h], ?_⟩
    rw [← h]
    exact pk_fb x
  · exact ⟨rfl, rfl⟩
  · exact ⟨rfl, rfl⟩
  · exact ⟨rfl, rfl⟩
  · exact ⟨rfl, rfl⟩
  · cases h
def sx_zero (t : ArrayType) (n : Nat) : Option vp_A := match t with
  | .long => some (n, .inr (.inl (fun _ => 0)))
  | .float => none
  | .double => none
  | _ => some (n, .inl (fun _ => 0))
theorem sx_zero_ok {t : ArrayType} {n : Nat} {x : vp_A} (h : sx_zero t n = some x) (ua : Nat → Nat) (cA : ClassId) : vp_cell cA (sx_upA ua x) = arrV cA n (fun _ => defaultValue (newarray.typeOf t)) ∧ n * componentBytes (newarray.typeOf t) ≤ n * 8 := by
  cases t <;> simp only [sx_zero] at h <;> first | (cases h; exact ⟨rfl, Nat.mul_le_mul_left _ (by decide)⟩) | cases h
section SXO
variable (K0 : Nat) (ft : Nat → Nat → FieldType) (df : Nat → List Value) (tf : Nat → FieldType) (cst : Nat → Nat → Bool) (zs : List (String × String × String × Value)) (ks : Nat → Value)
def sx_ogetf (a b pc : Nat) (lv : List (Nat × Value)) (st : List Value) (hs : sx_H) : Option sx_S :=
  (sx_popR st).bind fun q => (sx_obj hs q.1).bind fun o => if o.1 = a ∧ K0 ≤ q.1 then (o.2[b]?).bind fun v => some ((pc + 3, lv, v :: q.2), hs, 0, 0) else none
def sx_oputf (a b pc : Nat) (lv : List (Nat × Value)) (st : List Value) (hs : sx_H) : Option sx_S :=
  (sx_pop st).bind fun w => (sx_popR w.2).bind fun q => (sx_obj hs q.1).bind fun o => if o.1 = a ∧ K0 ≤ q.1 ∧ b < o.2.length ∧ sx_fit (ft a b) w.1 = true then some ((pc + 3, lv, q.2), hs.set q.1 (.inr (.inl (o.1, o.2.set b w.1))), 0, 0) else none
def sx_onew (a b pc : Nat) (lv : List (Nat × Value)) (st : List Value) (hs : sx_H) : Option sx_S :=
  if b = 0 then some ((pc + 3, lv, .ref hs.length :: st), hs ++ [.inr (.inl (a, df a))], 1, (df a).length) else none
def sx_onewa (t : ArrayType) (a pc : Nat) (lv : List (Nat × Value)) (st : List Value) (hs : sx_H) : Option sx_S :=
  (sx_popI st).bind fun q => if 0 ≤ q.1 ∧ q.1.toNatClampNeg ≤ 100000 then (sx_zero t q.1.toNatClampNeg).bind fun x => some ((pc + 2, lv, .ref hs.length :: q.2), hs ++ [.inl (a, x)], 1, q.1.toNatClampNeg) else none
def sx_onewq (a pc : Nat) (lv : List (Nat × Value)) (st : List Value) (hs : sx_H) : Option sx_S :=
  (sx_popI st).bind fun q => if 0 ≤ q.1 ∧ q.1.toNatClampNeg ≤ 100000 then some ((pc + 3, lv, .ref hs.length :: q.2), hs ++ [.inl (a, (q.1.toNatClampNeg, .inr (.inr (.inr (.inr (fun _ => none))))))], 1, q.1.toNatClampNeg) else none
def sx_oalen (pc : Nat) (lv : List (Nat × Value)) (st : List Value) (hs : sx_H) : Option sx_S :=
  (sx_popR st).bind fun q => (sx_arr hs q.1).bind fun o => some ((pc + 1, lv, .int (Int32.ofNat o.2.1) :: q.2), hs, 0, 0)
def sx_oald (ok : FieldType → Bool) (pc : Nat) (lv : List (Nat × Value)) (st : List Value) (hs : sx_H) : Option sx_S :=
  (sx_popI st).bind fun w => (sx_popR w.2).bind fun q => (sx_arr hs q.1).bind fun o => if ok (tf o.1) = true ∧ ¬ (w.1 < 0 ∨ o.2.1 ≤ w.1.toNatClampNeg) then some ((pc + 1, lv, sx_val o.2 w.1.toNatClampNeg :: q.2), hs, 0, 0) else none
def sx_oast (ty : FieldType) (nw : Int32 → Int32) (pc : Nat) (lv : List (Nat × Value)) (st : List Value) (hs : sx_H) : Option sx_S :=
  (sx_popI st).bind fun v => (sx_popI v.2).bind fun w => (sx_popR w.2).bind fun q => (sx_arr hs q.1).bind fun o => (sx_ai o.2).bind fun f => if tf o.1 = ty ∧ K0 ≤ q.1 ∧ ¬ (w.1 < 0 ∨ o.2.1 ≤ w.1.toNatClampNeg) then some ((pc + 1, lv, q.2), hs.set q.1 (.inl (o.1, (o.2.1, .inl (upd f w.1.toNatClampNeg (nw v.1))))), 0, 0) else none
def sx_olst (pc : Nat) (lv : List (Nat × Value)) (st : List Value) (hs : sx_H) : Option sx_S :=
  (sx_popL st).bind fun v => (sx_popI v.2).bind fun w => (sx_popR w.2).bind fun q => (sx_arr hs q.1).bind fun o => (sx_al o.2).bind fun f => if tf o.1 = .long ∧ K0 ≤ q.1 ∧ ¬ (w.1 < 0 ∨ o.2.1 ≤ w.1.toNatClampNeg) then some ((pc + 1, lv, q.2), hs.set q.1 (.inl (o.1, (o.2.1, .inr (.inl (vp_updL f w.1.toNatClampNeg v.1))))), 0, 0) else none
def sx_oaas (pc : Nat) (lv : List (Nat × Value)) (st : List Value) (hs : sx_H) : Option sx_S :=
  (sx_pop st).bind fun v => (sx_popI v.2).bind fun w => (sx_popR w.2).bind fun q => (sx_arr hs q.1).bind fun o => (sx_aq o.2).bind fun f => if K0 ≤ q.1 ∧ ¬ (w.1 < 0 ∨ o.2.1 ≤ w.1.toNatClampNeg) then (match v.1 with
    | .null => if cst 0 o.1 = true then some ((pc + 1, lv, q.2), hs.set q.1 (.inl (o.1, (o.2.1, .inr (.inr (.inr (.inr (va_up f w.1.toNatClampNeg none))))))), 0, 0) else none
    | .ref y => (sx_obj hs y).bind fun z => if K0 ≤ y ∧ cst (z.1 + 1) o.1 = true then some ((pc + 1, lv, q.2), hs.set q.1 (.inl (o.1, (o.2.1, .inr (.inr (.inr (.inr (va_up f w.1.toNatClampNeg (some y)))))))), 0, 0) else none
    | _ => none) else none
def sx_ogets (a pc : Nat) (lv : List (Nat × Value)) (st : List Value) (hs : sx_H) : Option sx_S :=
  (zs[a]?).bind fun z => some ((pc + 3, lv, z.2.2.2 :: st), hs, 0, 0)
/-- one instruction that is no call and no end of its method -/
def sx_hs (nL : Nat) (i : Instr) (len a b pc : Nat) (lv : List (Nat × Value)) (st : List Value) (hs : sx_H) : Option sx_S := match i with
  | .getfield _ => sx_ogetf K0 a b pc lv st hs
  | .putfield _ => sx_oputf K0 ft a b pc lv st hs
  | .new _ => sx_onew df a b pc lv st hs
  | .newarray t => sx_onewa t a pc lv st hs
  | .anewarray _ => sx_onewq a pc lv st hs
  | .arraylength => sx_oalen pc lv st hs
  | .iaload => sx_oald tf (fun ty => ty == .int) pc lv st hs
  | .baload => if b = 0 then sx_oald tf (fun ty => ty == .byte) pc lv st hs else sx_oald tf (fun ty => ty == .boolean) pc lv st hs
  | .caload => sx_oald tf (fun ty => ty == .char) pc lv st hs
  | .laload => sx_oald tf (fun ty => ty == .long) pc lv st hs
  | .aaload => sx_oald tf (fun ty => ty.isReference) pc lv st hs
  | .iastore => sx_oast K0 tf .int (fun x => x) pc lv st hs
  | .bastore => if b = 0 then sx_oast K0 tf .byte (vp_nar .byte) pc lv st hs else sx_oast K0 tf .boolean (vp_nar .boolean) pc lv st hs
  | .castore => sx_oast K0 tf .char (vp_nar .char) pc lv st hs
  | .lastore => sx_olst K0 tf pc lv st hs
  | .aastore => sx_oaas K0 cst pc lv st hs
  | .getstatic _ => sx_ogets zs a pc lv st hs
  | .ldc _ => some ((pc + 2, lv, ks a :: st), hs, 0, 0)
  | .ldc2_w _ => some ((pc + 3, lv, ks a :: st), hs, 0, 0)
  | i => (sx_pure nL i len pc lv st).bind fun F => some (F, hs, 0, 0)
end SXO
end
section
/-! THE ABSTRACT MACHINE: its instructions on the heap are sound -/
section SXK
variable (Ts xw : List Cond) (cl : List vw_C) (ft : Nat → Nat → FieldType) (df : Nat → List Value) (tf : Nat → FieldType) (nt : Nat) (zs : List (String × String × String × Value)) (ks : Nat → Value)
def sx_okC (ci : Nat) (C : String) (T : u_T) (N : Nat) : Prop := cl[ci]? = some (C, T, N) ∧ (∀ w ∈ u_ws C T N, w ∈ Ts) ∧ (∀ k, k < N → parseFieldDescriptor (T k).2.2.1 = some (ft ci k)) ∧ (∀ a, a < N → ∀ b, b < N → a ≠ b → (T a).2.1 ≠ (T b).2.1)
/-- what an instruction's numbers must be -/
def sx_okI (own : String) (isI : Bool) (i : Instr) (len a b : Nat) : Prop := match i with
  | .getfield idx => len = 3 ∧ ∃ (C : String) (T : u_T) (N : Nat), sx_okC Ts cl ft a C T N ∧ b < N ∧ Cond.fieldLink own idx (T b).1 (T b).2.1 (T b).2.2.1 ∈ Ts
  | .putfield idx => len = 3 ∧ ∃ (C : String) (T : u_T) (N : Nat), sx_okC Ts cl ft a C T N ∧ b < N ∧ Cond.fieldLink own idx (T b).1 (T b).2.1 (T b).2.2.1 ∈ Ts ∧ ((T b).2.2.2 = false ∨ ((T b).2.2.2 = true ∧ isI = true ∧ (T b).1 = own))
  | .new idx => len = 3 ∧ (b = 0 → ∃ (C : String) (T : u_T) (N : Nat), sx_okC Ts cl ft a C T N ∧ Cond.classLink own idx C ∈ Ts ∧ Cond.instantiable C N ∈ Ts ∧ Cond.initialized C ∈ Ts ∧ (df a).length = N ∧ (∀ j, j < N → defaultValue (ft a j) = vp_V (df a) j) ∧ ∀ ua, (df a).map (sx_up ua) = df a)
  | .newarray t => len = 2 ∧ Cond.arrayClass (newarray.typeOf t) ∈ Ts ∧ tf a = newarray.typeOf t ∧ a < nt
  | .anewarray idx => len = 3 ∧ ∃ C : String, tf a = .object C ∧ a < nt ∧ Cond.classLink own idx C ∈ Ts ∧ Cond.arrayOver (.object C) ∈ xw
  | .arraylength => len = 1
  | .iaload => len = 1
  | .baload => len = 1
  | .caload => len = 1
  | .laload => len = 1
  | .aaload => len = 1
  | .iastore => len = 1
  | .bastore => len = 1
  | .castore => len = 1
  | .lastore => len = 1
  | .aastore => len = 1
  | .getstatic idx => len = 3 ∧ ∀ z, zs[a]? = some z → Cond.fieldLink own idx z.1 z.2.1 z.2.2.1 ∈ Ts
  | .ldc idx => len = 2 ∧ ∃ v : Int32, ks a = .int v ∧ Cond.constant own idx v ∈ Ts
  | .ldc2_w idx => len = 3 ∧ ∃ v : Int64, ks a = .long v ∧ Cond.constantLong own idx v ∈ Ts
  | _ => True
end SXK
theorem sx_R.kd {D : va_G} {cl : List vw_C} {tys : List (ClassId × FieldType)} {ex : List String} {zs : List (String × String × String × Value)} {K0 base : Nat} {ua : Nat → Nat} {U : State} {hs : sx_H} {H : Heap} (hR : sx_R D cl tys ex zs K0 base ua U hs H) {a t : Nat} {x : vp_A} (he : hs[a]? = some (.inl (t, x))) : ∃ q, tys[t]? = some q := by
  by_cases ha : K0 ≤ a
  · obtain ⟨q, h1, -⟩ := hR.2.2.1 a _ he ha
    exact ⟨q, h1⟩
  · obtain ⟨q, h1, -⟩ := hR.2.2.2.1 a _ he (by omega)
    exact ⟨q, h1⟩
section SXL
variable {p : Program} {l : Launch} {e : Env} {R : Room} {s : State} {m : MethodId} {args : Array Value} {below : List Frame} {meth : Method} {c : Code} {H : Heap} {locs : List Loc} {cells slots : Nat} {Q : State → Prop}
variable {cc : ByteArray} {pc nL : Nat} {ls : Array Slot} {lv : List (Nat × Value)} {st : List Value} {F : sx_F}
variable {D : va_G} {cl : List vw_C} {tys : List (ClassId × FieldType)} {ex : List String} {zs : List (String × String × String × Value)} {K0 base : Nat} {ua : Nat → Nat} {hs hs1 : sx_H} {dc ds : Nat}
variable {Ts xw : List Cond} {ft : Nat → Nat → FieldType} {df : Nat → List Value} {tf : Nat → FieldType} {nt : Nat} {cst : Nat → Nat → Bool} {ks : Nat → Value}
set_option maxHeartbeats 4000000 in
theorem sx_hs_ok (hexec : p.tables.exec = Jvm.exec) (hb : c.code = cc) (hA : sx_A K0 base ua) {own : String} (hown : s.vm.findClass own = some m.cls) (hts : ∀ w ∈ Ts, w.before args s = true) (hxw : ∀ w ∈ xw, va_Nw w s) (hK : va_K D cl tys s)
    (htf : ∀ t q, tys[t]? = some q → q.2 = tf t) (hnt : ∀ t, t < nt → ∃ cT, tys[t]? = some (cT, tf t)) (hc0 : ∀ t, cst 0 t = true → ∃ E, tf t = .object E) (hc1 : ∀ ci t, cst (ci + 1) t = true → ∃ (r : vw_C) (E : String), cl[ci]? = some r ∧ tf t = .object E ∧ (r.1 = E ∨ Cond.castable r.1 E ∈ xw))
    {isI : Bool} (hini : isI = true → meth.name = "<init>") {i : Instr} {len a b : Nat} (hd : decode cc pc = .ok (i, len)) (ho : sx_okI Ts xw cl ft df tf nt zs ks own isI i len a b) (hl : lv_has ls nL (sx_upL ua lv)) (hR : sx_R D cl tys ex zs K0 base ua s hs H) (hL : ∀ q ∈ locs, base ≤ q.base)
    (h : sx_hs K0 ft df tf cst zs ks nL i len a b pc lv st hs = some (F, hs1, dc, ds)) (hcc : cells + dc ≤ R.cells) (hss : slots + ds ≤ R.slots)
    (kk : ∀ (ls' : Array Slot) (H1 : Heap) (locs1 : List Loc), lv_has ls' nL (sx_upL ua F.2.1) → sx_R D cl tys ex zs K0 base ua s hs1 H1 → (∀ q ∈ locs1, base ≤ q.base) → W p l e R s m args below meth c H1 locs1 (cells + dc) (slots + ds) Q (F0 m F.1 ls' (sx_upS ua F.2.2))) :
    W p l e R s m args below meth c H locs cells slots Q (F0 m pc ls (sx_upS ua st)) := by
  cases i with
  | getfield idx =>
    obtain ⟨rfl, C, T, N, ⟨hC, hin, hty, hnm⟩, hk, hlk⟩ := ho
    obtain ⟨⟨x, r⟩, h1, h⟩ := Option.bind_eq_some_iff.mp h
    obtain ⟨⟨ci, fs⟩, h2, h⟩ := Option.bind_eq_some_iff.mp h
    by_cases hcnd : ci = a ∧ K0 ≤ x
    · rw [if_pos hcnd] at h
      obtain ⟨v, h3, h⟩ := Option.bind_eq_some_iff.mp h
      cases h
      obtain ⟨rfl, hx⟩ := hcnd
      rw [sx_popR_inv h1]
      exact sx_get hexec hb hts hin hown hK hR (sx_obj_inv h2) hx hC b hk (hts _ hlk) (fun _ z => z) h3 hd (kk ls H locs hl hR hL)
    · rw [if_neg hcnd] at h
      cases h
  | putfield idx =>
    obtain ⟨rfl, C, T, N, ⟨hC, hin, hty, hnm⟩, hk, hlk, hfin⟩ := ho
    obtain ⟨⟨v, r0⟩, h0, h⟩ := Option.bind_eq_some_iff.mp h
    obtain ⟨⟨x, r⟩, h1, h⟩ := Option.bind_eq_some_iff.mp h
    obtain ⟨⟨ci, fs⟩, h2, h⟩ := Option.bind_eq_some_iff.mp h
    by_cases hcnd : ci = a ∧ K0 ≤ x ∧ b < fs.length ∧ sx_fit (ft a b) v = true
    · rw [if_pos hcnd] at h
      cases h
      obtain ⟨rfl, hx, hbl, hfit⟩ := hcnd
      have e1 := sx_pop_inv h0
      have e2 := sx_popR_inv h1
      dsimp only at e1 e2
      rw [e1, e2]
      obtain ⟨f1, f2⟩ := sx_fit_ok hfit
      rcases hfin with hfin | ⟨hfin, hi, hdecl⟩
      · exact sx_put hexec hb hts hin _ hty hnm hown hK hA hR hL (sx_obj_inv h2) hx hC b hk (hts _ hlk) (fun _ z => z) hfin (hty b hk) f1 f2 hbl hd (fun H1 locs1 hR1 hL1 => kk ls H1 locs1 hl hR1 hL1)
      · exact sx_putF hexec hb hts hin _ hty hnm hown hK hA hR hL (sx_obj_inv h2) hx hC b hk (hts _ hlk) (fun _ z => z) hfin (hini hi) hdecl (hty b hk) f1 f2 hbl hd (fun H1 locs1 hR1 hL1 => kk ls H1 locs1 hl hR1 hL1)
    · rw [if_neg hcnd] at h
      cases h
  | new idx =>
    obtain ⟨rfl, ho⟩ := ho
    have h : sx_onew df a b pc lv st hs = some (F, hs1, dc, ds) := h
    unfold sx_onew at h
    by_cases hb0 : b = 0
    · rw [if_pos hb0] at h
      cases h
      obtain ⟨C, T, N, ⟨hC, hin, hty, hnm⟩, hk1, hk2, hk3, hlen, hdf, hup⟩ := ho hb0
      rw [hlen] at hss kk
      exact sx_new hexec hb hts hin _ hty hown (hts _ hk1) (hts _ hk2) (hts _ hk3) hK hA hR hC hdf (hup ua) hcc hss hd (fun H1 hR1 => kk ls H1 locs hl hR1 hL)
    · rw [if_neg hb0] at h
      cases h
  | newarray t =>
    obtain ⟨rfl, hk1, htfa, hnta⟩ := ho
    obtain ⟨⟨n, r⟩, h1, h⟩ := Option.bind_eq_some_iff.mp h
    by_cases hcnd : 0 ≤ n ∧ n.toNatClampNeg ≤ 100000
    · rw [if_pos hcnd] at h
      obtain ⟨x, h3, h⟩ := Option.bind_eq_some_iff.mp h
      cases h
      rw [sx_popI_inv h1]
      obtain ⟨cT, hcT⟩ := hnt a hnta
      rw [htfa] at hcT
      have hz := sx_zero_ok h3 ua
      exact sx_newa hexec hb (hts _ hk1) hK hA hR hcT (fun cA => (hz cA).1) (k2_nlt hcnd.1) rfl (Nat.le_trans (hz default).2 (by have h5 : n.toNatClampNeg ≤ 100000 := hcnd.2; (try dsimp only); omega)) hcc hss hd (fun H1 hR1 => kk ls H1 locs hl hR1 hL)
    · rw [if_neg hcnd] at h
      cases h
  | anewarray idx =>
    obtain ⟨rfl, C, htfa, hnta, hk1, hk2⟩ := ho
    obtain ⟨⟨n, r⟩, h1, h⟩ := Option.bind_eq_some_iff.mp h
    by_cases hcnd : 0 ≤ n ∧ n.toNatClampNeg ≤ 100000
    · rw [if_pos hcnd] at h
      cases h
      rw [sx_popI_inv h1]
      obtain ⟨cT, hcT⟩ := hnt a hnta
      rw [htfa] at hcT
      exact sx_newq hexec hb hown (hts _ hk1) (va_AO.use (hxw _ hk2)) hK hA hR hcT (k2_nlt hcnd.1) rfl (by have h5 : n.toNatClampNeg ≤ 100000 := hcnd.2; (try dsimp only); omega) hcc hss hd (fun H1 hR1 => kk ls H1 locs hl hR1 hL)
    · rw [if_neg hcnd] at h
      cases h
  | arraylength =>
    have ho : len = 1 := ho
    subst ho
    obtain ⟨⟨x, r⟩, h1, h⟩ := Option.bind_eq_some_iff.mp h
    obtain ⟨⟨t, y⟩, h2, h⟩ := Option.bind_eq_some_iff.mp h
    cases h
    rw [sx_popR_inv h1]
    obtain ⟨q, hq⟩ := sx_R.kd hR (sx_arr_inv h2)
    exact sx_alen hexec hb hK hR (sx_arr_inv h2) hq hd (kk ls H locs hl hR hL)
  | iaload =>
    have ho : len = 1 := ho
    subst ho
    obtain ⟨⟨j, r0⟩, h0, h⟩ := Option.bind_eq_some_iff.mp h
    obtain ⟨⟨x, r⟩, h1, h⟩ := Option.bind_eq_some_iff.mp h
    obtain ⟨⟨t, y⟩, h2, h⟩ := Option.bind_eq_some_iff.mp h
    by_cases hcnd : (tf t == .int) = true ∧ ¬ (j < 0 ∨ y.1 ≤ j.toNatClampNeg)
    · rw [if_pos hcnd] at h
      cases h
      have e1 := sx_popI_inv h0
      have e2 := sx_popR_inv h1
      dsimp only at e1 e2
      rw [e1, e2]
      obtain ⟨q, hq⟩ := sx_R.kd hR (sx_arr_inv h2)
      exact sx_iald hexec hb hK hR (sx_arr_inv h2) hq (by rw [htf t q hq]; exact eq_of_beq hcnd.1) hcnd.2 hd (kk ls H locs hl hR hL)
    · rw [if_neg hcnd] at h
      cases h
  | baload =>
    have ho : len = 1 := ho
    subst ho
    simp only [sx_hs] at h
    by_cases hb0 : b = 0
    · rw [if_pos hb0] at h
      obtain ⟨⟨j, r0⟩, h0, h⟩ := Option.bind_eq_some_iff.mp h
      obtain ⟨⟨x, r⟩, h1, h⟩ := Option.bind_eq_some_iff.mp h
      obtain ⟨⟨t, y⟩, h2, h⟩ := Option.bind_eq_some_iff.mp h
      by_cases hcnd : (tf t == .byte) = true ∧ ¬ (j < 0 ∨ y.1 ≤ j.toNatClampNeg)
      · rw [if_pos hcnd] at h
        cases h
        have e1 := sx_popI_inv h0
        have e2 := sx_popR_inv h1
        dsimp only at e1 e2
        rw [e1, e2]
        obtain ⟨q, hq⟩ := sx_R.kd hR (sx_arr_inv h2)
        exact sx_bald hexec hb hK hR (sx_arr_inv h2) hq (by rw [htf t q hq]; exact eq_of_beq hcnd.1) hcnd.2 hd (kk ls H locs hl hR hL)
      · rw [if_neg hcnd] at h
        cases h
    · rw [if_neg hb0] at h
      obtain ⟨⟨j, r0⟩, h0, h⟩ := Option.bind_eq_some_iff.mp h
      obtain ⟨⟨x, r⟩, h1, h⟩ := Option.bind_eq_some_iff.mp h
      obtain ⟨⟨t, y⟩, h2, h⟩ := Option.bind_eq_some_iff.mp h
      by_cases hcnd : (tf t == .boolean) = true ∧ ¬ (j < 0 ∨ y.1 ≤ j.toNatClampNeg)
      · rw [if_pos hcnd] at h
        cases h
        have e1 := sx_popI_inv h0
        have e2 := sx_popR_inv h1
        dsimp only at e1 e2
        rw [e1, e2]
        obtain ⟨q, hq⟩ := sx_R.kd hR (sx_arr_inv h2)
        exact sx_zald hexec hb hK hR (sx_arr_inv h2) hq (by rw [htf t q hq]; exact eq_of_beq hcnd.1) hcnd.2 hd (kk ls H locs hl hR hL)
      · rw [if_neg hcnd] at h
        cases h
  | caload =>
    have ho : len = 1 := ho
    subst ho
    obtain ⟨⟨j, r0⟩, h0, h⟩ := Option.bind_eq_some_iff.mp h
    obtain ⟨⟨x, r⟩, h1, h⟩ := Option.bind_eq_some_iff.mp h
    obtain ⟨⟨t, y⟩, h2, h⟩ := Option.bind_eq_some_iff.mp h
    by_cases hcnd : (tf t == .char) = true ∧ ¬ (j < 0 ∨ y.1 ≤ j.toNatClampNeg)
    · rw [if_pos hcnd] at h
      cases h
      have e1 := sx_popI_inv h0
      have e2 := sx_popR_inv h1
      dsimp only at e1 e2
      rw [e1, e2]
      obtain ⟨q, hq⟩ := sx_R.kd hR (sx_arr_inv h2)
      exact sx_cald hexec hb hK hR (sx_arr_inv h2) hq (by rw [htf t q hq]; exact eq_of_beq hcnd.1) hcnd.2 hd (kk ls H locs hl hR hL)
    · rw [if_neg hcnd] at h
      cases h
  | laload =>
    have ho : len = 1 := ho
    subst ho
    obtain ⟨⟨j, r0⟩, h0, h⟩ := Option.bind_eq_some_iff.mp h
    obtain ⟨⟨x, r⟩, h1, h⟩ := Option.bind_eq_some_iff.mp h
    obtain ⟨⟨t, y⟩, h2, h⟩ := Option.bind_eq_some_iff.mp h
    by_cases hcnd : (tf t == .long) = true ∧ ¬ (j < 0 ∨ y.1 ≤ j.toNatClampNeg)
    · rw [if_pos hcnd] at h
      cases h
      have e1 := sx_popI_inv h0
      have e2 := sx_popR_inv h1
      dsimp only at e1 e2
      rw [e1, e2]
      obtain ⟨q, hq⟩ := sx_R.kd hR (sx_arr_inv h2)
      exact sx_lald hexec hb hK hR (sx_arr_inv h2) hq (by rw [htf t q hq]; exact eq_of_beq hcnd.1) hcnd.2 hd (kk ls H locs hl hR hL)
    · rw [if_neg hcnd] at h
      cases h
  | aaload =>
    have ho : len = 1 := ho
    subst ho
    obtain ⟨⟨j, r0⟩, h0, h⟩ := Option.bind_eq_some_iff.mp h
    obtain ⟨⟨x, r⟩, h1, h⟩ := Option.bind_eq_some_iff.mp h
    obtain ⟨⟨t, y⟩, h2, h⟩ := Option.bind_eq_some_iff.mp h
    by_cases hcnd : (tf t).isReference = true ∧ ¬ (j < 0 ∨ y.1 ≤ j.toNatClampNeg)
    · rw [if_pos hcnd] at h
      cases h
      have e1 := sx_popI_inv h0
      have e2 := sx_popR_inv h1
      dsimp only at e1 e2
      rw [e1, e2]
      obtain ⟨q, hq⟩ := sx_R.kd hR (sx_arr_inv h2)
      exact sx_aald hexec hb hK hR (sx_arr_inv h2) hq (by rw [htf t q hq]; exact hcnd.1) hcnd.2 hd (kk ls H locs hl hR hL)
    · rw [if_neg hcnd] at h
      cases h
  | iastore =>
    have ho : len = 1 := ho
    subst ho
    obtain ⟨⟨v, r1⟩, h9, h⟩ := Option.bind_eq_some_iff.mp h
    obtain ⟨⟨j, r0⟩, h0, h⟩ := Option.bind_eq_some_iff.mp h
    obtain ⟨⟨x, r⟩, h1, h⟩ := Option.bind_eq_some_iff.mp h
    obtain ⟨⟨t, y⟩, h2, h⟩ := Option.bind_eq_some_iff.mp h
    obtain ⟨f, h3, h⟩ := Option.bind_eq_some_iff.mp h
    by_cases hcnd : tf t = .int ∧ K0 ≤ x ∧ ¬ (j < 0 ∨ y.1 ≤ j.toNatClampNeg)
    · rw [if_pos hcnd] at h
      cases h
      have e0 := sx_popI_inv h9
      have e1 := sx_popI_inv h0
      have e2 := sx_popR_inv h1
      dsimp only at e0 e1 e2
      rw [e0, e1, e2]
      have he := sx_arr_inv h2
      obtain ⟨n, y⟩ := y
      have hy := sx_ai_inv h3
      dsimp only at hy
      rw [hy] at he
      obtain ⟨q, hq⟩ := sx_R.kd hR he
      exact sx_iast hexec hb hK hA hR hL he hcnd.2.1 hq (by rw [htf t q hq]; exact hcnd.1) hcnd.2.2 hd (fun H1 locs1 hR1 hL1 => kk ls H1 locs1 hl hR1 hL1)
    · rw [if_neg hcnd] at h
      cases h
  | bastore =>
    have ho : len = 1 := ho
    subst ho
    simp only [sx_hs] at h
    by_cases hb0 : b = 0
    · rw [if_pos hb0] at h
      obtain ⟨⟨v, r1⟩, h9, h⟩ := Option.bind_eq_some_iff.mp h
      obtain ⟨⟨j, r0⟩, h0, h⟩ := Option.bind_eq_some_iff.mp h
      obtain ⟨⟨x, r⟩, h1, h⟩ := Option.bind_eq_some_iff.mp h
      obtain ⟨⟨t, y⟩, h2, h⟩ := Option.bind_eq_some_iff.mp h
      obtain ⟨f, h3, h⟩ := Option.bind_eq_some_iff.mp h
      by_cases hcnd : tf t = .byte ∧ K0 ≤ x ∧ ¬ (j < 0 ∨ y.1 ≤ j.toNatClampNeg)
      · rw [if_pos hcnd] at h
        cases h
        have e0 := sx_popI_inv h9
        have e1 := sx_popI_inv h0
        have e2 := sx_popR_inv h1
        dsimp only at e0 e1 e2
        rw [e0, e1, e2]
        have he := sx_arr_inv h2
        obtain ⟨n, y⟩ := y
        have hy := sx_ai_inv h3
        dsimp only at hy
        rw [hy] at he
        obtain ⟨q, hq⟩ := sx_R.kd hR he
        exact sx_bast hexec hb hK hA hR hL he hcnd.2.1 hq (by rw [htf t q hq]; exact hcnd.1) hcnd.2.2 hd (fun H1 locs1 hR1 hL1 => kk ls H1 locs1 hl hR1 hL1)
      · rw [if_neg hcnd] at h
        cases h
    · rw [if_neg hb0] at h
      obtain ⟨⟨v, r1⟩, h9, h⟩ := Option.bind_eq_some_iff.mp h
      obtain ⟨⟨j, r0⟩, h0, h⟩ := Option.bind_eq_some_iff.mp h
      obtain ⟨⟨x, r⟩, h1, h⟩ := Option.bind_eq_some_iff.mp h
      obtain ⟨⟨t, y⟩, h2, h⟩ := Option.bind_eq_some_iff.mp h
      obtain ⟨f, h3, h⟩ := Option.bind_eq_some_iff.mp h
      by_cases hcnd : tf t = .boolean ∧ K0 ≤ x ∧ ¬ (j < 0 ∨ y.1 ≤ j.toNatClampNeg)
      · rw [if_pos hcnd] at h
        cases h
        have e0 := sx_popI_inv h9
        have e1 := sx_popI_inv h0
        have e2 := sx_popR_inv h1
        dsimp only at e0 e1 e2
        rw [e0, e1, e2]
        have he := sx_arr_inv h2
        obtain ⟨n, y⟩ := y
        have hy := sx_ai_inv h3
        dsimp only at hy
        rw [hy] at he
        obtain ⟨q, hq⟩ := sx_R.kd hR he
        exact sx_zast hexec hb hK hA hR hL he hcnd.2.1 hq (by rw [htf t q hq]; exact hcnd.1) hcnd.2.2 hd (fun H1 locs1 hR1 hL1 => kk ls H1 locs1 hl hR1 hL1)
      · rw [if_neg hcnd] at h
        cases h
  | castore =>
    have ho : len = 1 := ho
    subst ho
    obtain ⟨⟨v, r1⟩, h9, h⟩ := Option.bind_eq_some_iff.mp h
    obtain ⟨⟨j, r0⟩, h0, h⟩ := Option.bind_eq_some_iff.mp h
    obtain ⟨⟨x, r⟩, h1, h⟩ := Option.bind_eq_some_iff.mp h
    obtain ⟨⟨t, y⟩, h2, h⟩ := Option.bind_eq_some_iff.mp h
    obtain ⟨f, h3, h⟩ := Option.bind_eq_some_iff.mp h
    by_cases hcnd : tf t = .char ∧ K0 ≤ x ∧ ¬ (j < 0 ∨ y.1 ≤ j.toNatClampNeg)
    · rw [if_pos hcnd] at h
      cases h
      have e0 := sx_popI_inv h9
      have e1 := sx_popI_inv h0
      have e2 := sx_popR_inv h1
      dsimp only at e0 e1 e2
      rw [e0, e1, e2]
      have he := sx_arr_inv h2
      obtain ⟨n, y⟩ := y
      have hy := sx_ai_inv h3
      dsimp only at hy
      rw [hy] at he
      obtain ⟨q, hq⟩ := sx_R.kd hR he
      exact sx_cast hexec hb hK hA hR hL he hcnd.2.1 hq (by rw [htf t q hq]; exact hcnd.1) hcnd.2.2 hd (fun H1 locs1 hR1 hL1 => kk ls H1 locs1 hl hR1 hL1)
    · rw [if_neg hcnd] at h
      cases h
  | lastore =>
    have ho : len = 1 := ho
    subst ho
    obtain ⟨⟨v, r1⟩, h9, h⟩ := Option.bind_eq_some_iff.mp h
    obtain ⟨⟨j, r0⟩, h0, h⟩ := Option.bind_eq_some_iff.mp h
    obtain ⟨⟨x, r⟩, h1, h⟩ := Option.bind_eq_some_iff.mp h
    obtain ⟨⟨t, y⟩, h2, h⟩ := Option.bind_eq_some_iff.mp h
    obtain ⟨f, h3, h⟩ := Option.bind_eq_some_iff.mp h
    by_cases hcnd : tf t = .long ∧ K0 ≤ x ∧ ¬ (j < 0 ∨ y.1 ≤ j.toNatClampNeg)
    · rw [if_pos hcnd] at h
      cases h
      have e0 := sx_popL_inv h9
      have e1 := sx_popI_inv h0
      have e2 := sx_popR_inv h1
      dsimp only at e0 e1 e2
      rw [e0, e1, e2]
      have he := sx_arr_inv h2
      obtain ⟨n, y⟩ := y
      have hy := sx_al_inv h3
      dsimp only at hy
      rw [hy] at he
      obtain ⟨q, hq⟩ := sx_R.kd hR he
      exact sx_last hexec hb hK hA hR hL he hcnd.2.1 hq (by rw [htf t q hq]; exact hcnd.1) hcnd.2.2 hd (fun H1 locs1 hR1 hL1 => kk ls H1 locs1 hl hR1 hL1)
    · rw [if_neg hcnd] at h
      cases h
  | aastore =>
    have ho : len = 1 := ho
    subst ho
    obtain ⟨⟨v, r1⟩, h9, h⟩ := Option.bind_eq_some_iff.mp h
    obtain ⟨⟨j, r0⟩, h0, h⟩ := Option.bind_eq_some_iff.mp h
    obtain ⟨⟨x, r⟩, h1, h⟩ := Option.bind_eq_some_iff.mp h
    obtain ⟨⟨t, n, y⟩, h2, h⟩ := Option.bind_eq_some_iff.mp h
    obtain ⟨f, h3, h⟩ := Option.bind_eq_some_iff.mp h
    by_cases hcnd : K0 ≤ x ∧ ¬ (j < 0 ∨ n ≤ j.toNatClampNeg)
    · rw [if_pos hcnd] at h
      have e0 := sx_pop_inv h9
      have e1 := sx_popI_inv h0
      have e2 := sx_popR_inv h1
      dsimp only at e0 e1 e2
      rw [e0, e1, e2]
      have he := sx_arr_inv h2
      have hy := sx_aq_inv h3
      dsimp only at hy
      rw [hy] at he
      obtain ⟨q, hq⟩ := sx_R.kd hR he
      clear h9 e0
      cases v with
      | null =>
        dsimp only at h
        by_cases hz : cst 0 t = true
        · rw [if_pos hz] at h
          cases h
          obtain ⟨E, hE⟩ := hc0 t hz
          have hq2 : q = (q.1, .object E) := by rw [← hE, ← htf t q hq]
          rw [hq2] at hq
          exact sx_aastN hexec hb hK hA hR hL he hcnd.1 hq hcnd.2 hd (fun H1 locs1 hR1 hL1 => kk ls H1 locs1 hl hR1 hL1)
        · rw [if_neg hz] at h
          cases h
      | ref w =>
        dsimp only at h
        obtain ⟨⟨ci, vs⟩, h4, h⟩ := Option.bind_eq_some_iff.mp h
        by_cases hz : K0 ≤ w ∧ cst (ci + 1) t = true
        · rw [if_pos hz] at h
          cases h
          obtain ⟨r', E, hr, hE, hca⟩ := hc1 ci t hz.2
          have hq2 : q = (q.1, .object E) := by rw [← hE, ← htf t q hq]
          rw [hq2] at hq
          exact sx_aast hexec hb hK hA hR hL he hcnd.1 hq (sx_obj_inv h4) hz.1 hr (hca.imp id (fun z => hxw _ z)) hcnd.2 hd (fun H1 locs1 hR1 hL1 => kk ls H1 locs1 hl hR1 hL1)
        · rw [if_neg hz] at h
          cases h
      | _ => cases h
    · rw [if_neg hcnd] at h
      cases h
  | getstatic idx =>
    obtain ⟨rfl, ho⟩ := ho
    obtain ⟨⟨C, n, d, v⟩, h1, h⟩ := Option.bind_eq_some_iff.mp h
    cases h
    exact sx_gets hexec hb hR (List.mem_of_getElem? h1) hown (hts _ (ho _ h1)) (fun _ z => z) hd (kk ls H locs hl hR hL)
  | ldc idx =>
    obtain ⟨rfl, v, hv, ho⟩ := ho
    simp only [sx_hs, hv] at h
    cases h
    exact lv_ldc hexec hb hown (hts _ ho) hd (kk ls H locs hl hR hL)
  | ldc2_w idx =>
    obtain ⟨rfl, v, hv, ho⟩ := ho
    simp only [sx_hs, hv] at h
    cases h
    exact lv_ldc2 hexec hb hown (hts _ ho) hd (kk ls H locs hl hR hL)
  | _ =>
    simp only [sx_hs] at h
    obtain ⟨F', h1, h2⟩ := Option.bind_eq_some_iff.mp h
    cases h2
    exact sx_pure_ok hexec hb hA.2.2 hd hl h1 (fun ls' hl' => kk ls' H locs hl' hR hL)
end SXL
end
section
/-! EXCEPTIONS: 'new X; dup; X.<init>(); athrow' in a launch without stack traces: the row of the constructor's call, the row of the end -/
section SXT
variable {p : Program} {l : Launch} {e : Env} {R : Room} {s : State} {m : MethodId} {args : Array Value} {below : List Frame} {meth : Method} {c : Code} {H : Heap} {locs : List Loc} {cells slots : Nat} {Q : State → Prop}
variable {cc : ByteArray} {pc nL : Nat} {ls : Array Slot} {st : List Value} {T : State}
set_option maxHeartbeats 4000000 in
theorem sx_ctor (X : Stand p l e R s m args below meth c T locs cells slots) (hexec : p.tables.exec = Jvm.exec) (htr : e.platform.stackTraces = false) {own cls : String} {names : List String} {ic : Nat} (hown : s.vm.findClass own = some m.cls) (hcls : Bundle.fit cls = true) (hnames : ∀ n ∈ names, Bundle.fit n = true)
    (h : ∀ a ∈ Bundle.ownAtoms0 own ic cls names, a.before args s = true) (hlocs : ∀ x ∈ locs, ∀ cell, s.heap[x.base]? = some cell → cell.vm.isStatics = false)
    {a : Addr} {cX : ClassId} {kX : Class} (hfoundX : s.vm.findClass cls = some cX) (hkX : s.vm.classes[cX]? = some kX) (hcell : T.heap[a]? = some (freshCell cX kX)) (hnew : s.heap.size ≤ a)
    {g : JFrame} (hg : g.method = m) (hsize : g.locals.size = c.maxLocals) {rest : List Value} (hstack : g.stack = .ref a :: .ref a :: rest) (hd6 : decode c.code g.pc = .ok (.invokespecial ic, 3))
    (hRframes : names.length + 3 < R.frames) (hRlocals : 2 * g.monitorRoom + ((Value.ref a :: rest).map fun v => v.category).sum + (13 * (names.length + 1) + 41) ≤ R.locals) :
    ∃ (vm' : Vm) (ce : Cell) (L : List Loc), (∀ q ∈ L, q.base = a) ∧ ce.cls = cX ∧ ce.vm = .none ∧ Stand p l e R s m args below meth c ((T.setVm vm').setCell a ce) (locs ++ L) cells slots ∧
      ∀ target, Steps p.tables e below (((T.setVm vm').setCell a ce).setTop { g with pc := g.pc + 3, stack := .ref a :: rest }) target → Steps p.tables e below (T.setTop g) target := by
  have hpl : e.platform.magicAccessors = ({} : Platform).magicAccessors := by rw [X.admits.platform]
  have hh : ∀ x, x ∈ Bundle.ownAtoms0 own ic cls names → x.holds args s none s [] = true := fun x hx => h x hx
  obtain ⟨Th, Z, LT, LZ, Y⟩ := ThrowableC.of_atoms (args := args) (by rw [X.admits.platform]) (by rw [X.admits.platform]) hpl (fun x hx => h x (by simp [Bundle.ownAtoms0, hx]))
  obtain ⟨P1, Ps, hlen, L1, hPs, hP1m, hlink1, hlink⟩ := Bundle.chain0 (args := args) hpl Y.init0 names cls hcls hnames (fun x hx => h x (by simp [Bundle.ownAtoms0, hx]))
  have hfound : s.vm.findClass cls = some P1.m.cls := findClass_of_methodNamed hP1m
  cases Option.some.inj (hfoundX.symm.trans hfound)
  obtain ⟨c1, kX', hc1, hk, hord, -, -, hn6⟩ := Cond.instantiable_spec (hh (.instantiable cls 6) (by simp [Bundle.ownAtoms0]))
  cases Option.some.inj (hc1.symm.trans hfound)
  cases Option.some.inj (hkX.symm.trans hk)
  have hsel : ∀ (y : MethodName) (mk : MethodId), s.methodNamed? y = some mk → (y.cls ≠ "java/lang/invoke/MethodHandle" ∧ y.cls ≠ "java/lang/invoke/VarHandle") → (Cond.selects cls y y).before args s = true → selectMethod e.platform s.vm P1.m.cls mk = .method mk := by
    intro y mk hnm hy hs
    obtain ⟨c2, r2, m2, q1, q2, q3, q4, -⟩ := Cond.selects_spec hs
    cases Option.some.inj (q1.symm.trans hfound)
    cases Option.some.inj (q2.symm.trans (State.methodFound?_of_named hnm hy))
    cases Option.some.inj (q3.symm.trans hnm)
    rw [Launch.admits_selectMethod X.admits]
    exact q4
  obtain ⟨cellS0, hcS0, hiss⟩ := Y.statics
  obtain ⟨u0, hu0⟩ := Cond.staticRefV Y.unassigned LT.unassignedStatic LT.statics hcS0 hiss (hh (.isRef (.static Bundle.tN "UNASSIGNED_STACK" Bundle.steD)) (by simp [Bundle.ownAtoms0]))
  obtain ⟨sen, hsen⟩ := Cond.staticRefV Y.sentinel LT.sentinelStatic LT.statics hcS0 hiss (hh (.isRef (.static Bundle.tN "SUPPRESSED_SENTINEL" Bundle.listD)) (by simp [Bundle.ownAtoms0]))
  obtain ⟨ci198, i198, fB, hk198, hg198, ha198, hsB, -, hnB, htB, hffB⟩ := Cond.ownField (t := .object "java/lang/Object") Y.found LT.cls (by decide +kernel) (hh (.fieldLink Bundle.tN 198 Bundle.tN "backtrace" "Ljava/lang/Object;") (by simp [Bundle.ownAtoms0])) (hh (.lays Bundle.tN Bundle.tN "backtrace" "Ljava/lang/Object;") (by simp [Bundle.ownAtoms0])) e.platform hpl
  obtain ⟨cellS, hcS', heS, -, hkeep⟩ := X.same.2.2.2.2.2 Th.aS cellS0 hcS0
  have hcellS : T.heap[Th.aS]? = some cellS := hcS'
  have hfreeS : ∀ i, (⟨Th.aS, i⟩ : Loc) ∉ locs := fun i hmem => by
    have h1 := hlocs _ hmem cellS0 hcS0
    rw [hiss] at h1
    cases h1
  have hknownS : cellS.vm ≠ .unknown := by
    rw [heS]
    intro hu
    rw [show cellS0.vm = .unknown from hu] at hiss
    cases hiss
  have hneS : Th.aS ≠ a := Nat.ne_of_lt (Nat.lt_of_lt_of_le (Array.getElem?_eq_some_iff.mp hcS0).1 hnew)
  obtain ⟨tyC, dC, hdC, hdnC⟩ := Cond.laysAt hfound hk Y.cause (hh (.lays cls Bundle.tN "cause" "Ljava/lang/Throwable;") (by simp [Bundle.ownAtoms0]))
  obtain ⟨tyS, dS, hdS, hdnS⟩ := Cond.laysAt hfound hk Y.stack (hh (.lays cls Bundle.tN "stackTrace" Bundle.steD) (by simp [Bundle.ownAtoms0]))
  obtain ⟨tyP, dP, hdP, hdnP⟩ := Cond.laysAt hfound hk Y.supp (hh (.lays cls Bundle.tN "suppressedExceptions" Bundle.listD) (by simp [Bundle.ownAtoms0]))
  obtain ⟨tyB, dB, hdB, hdnB⟩ := Cond.laysAt hfound hk hffB (hh (.lays cls Bundle.tN "backtrace" "Ljava/lang/Object;") (by simp [Bundle.ownAtoms0]))
  have bC := Cond.laysApart hdB hdC hdnB hdnC (by rw [hnB, Y.causeName]; decide)
  have bS := Cond.laysApart hdB hdS hdnB hdnS (by rw [hnB, Y.stackName]; decide)
  have bP := Cond.laysApart hdB hdP hdnB hdnP (by rw [hnB, Y.suppName]; decide)
  have hskip : SkipFacts Th e.platform s (fun u => u) u0 ((preparedCellV Th.toThrowableT (freshCell P1.m.cls kX) a u0 sen).withEntry T.cur) :=
    ⟨{ ci198 := ci198, i198 := i198, fBack := fB }, ⟨hk198, hg198, ha198, hsB⟩, by
      have hz := fresh_default (c := P1.m.cls) tyB
      rw [htB] at hz
      simpa [preparedCellV, Cell.setSlot, Cell.withEntry, Array.getElem?_setIfInBounds, bC, bS, bP, bC.symm, bS.symm, bP.symm, defaultValue] using hz, fun _ _ => rfl⟩
  obtain ⟨tm, methC, cdC, kC, vm₁, hnC, -, -, -, -, -, -, -, hW₁, st1⟩ := Steps.initCold (tb := p.tables) (e := e) (below := below) (s := s) (U := T) X.here hexec X.warmed hpl hown (t := Bundle.init0 cls) rfl rfl (Bundle.fit_spec hcls).2
    (hh (.methodLink own ic (Bundle.init0 cls)) (by simp [Bundle.ownAtoms0])) (h (.instanceMethod (Bundle.init0 cls)) (by cases names <;> simp [Bundle.ownAtoms0, Bundle.chain0Atoms, Bundle.passAtoms])) (bytes := Bundle.five) (maxL := 1) (h (.code (Bundle.init0 cls) Bundle.five 1 none) (by cases names <;> simp [Bundle.ownAtoms0, Bundle.chain0Atoms, Bundle.passAtoms]))
    (f := g) hg (a := a) (rest := .ref a :: rest) hstack hd6
  cases Option.some.inj (hnC.symm.trans hP1m)
  have X₁ := X.noted hW₁
  obtain ⟨vm₂, X₂, st2⟩ := X₁.ctorPlainOffV hexec (g := { g with stack := .ref a :: rest }) hg hsize Th LT Z LZ (P1 :: Ps)
    (fun P hP => (List.mem_cons.mp hP).elim (fun z => z ▸ L1) (hPs P)) ⟨hlink1, hlink⟩ (u0 := u0) (sen := sen) (self := a) (cell := freshCell P1.m.cls kX) (cellS := cellS)
    hcell (fun _ => by simp) (by simp) rfl rfl (hsel _ _ Y.fill0 (by decide) (hh (.selects cls Bundle.tFill0 Bundle.tFill0) (by simp [Bundle.ownAtoms0]))) (hsel _ _ Y.fill (by decide) (hh (.selects cls Bundle.tFill Bundle.tFill) (by simp [Bundle.ownAtoms0]))) hcellS hneS hknownS (by rw [hkeep _ (hfreeS _)]; exact hu0) (by rw [hkeep _ (hfreeS _)]; exact hsen)
    (Takes.of_laid hk hord tyC (by rw [Y.causeType]; rfl)) (Takes.of_laid hk hord tyS (by rw [Y.stackType]; exact fits_refV_array _ u0)) (Takes.of_laid hk hord tyP (by rw [Y.suppType]; exact fits_refV_object _ sen)) Y.objLocals hskip htr [] hd6
    (by simp only [List.length_cons, hlen]; omega) (by simp only [List.length_cons, hlen]; exact hRlocals)
  refine ⟨vm₂, _, _, ?_, rfl, rfl, X₂, fun target ht => st1 _ (fun acts => ?_)⟩
  · intro q hq
    simp only [List.mem_cons, List.not_mem_nil, or_false] at hq
    rcases hq with rfl | rfl | rfl | rfl <;> rfl
  · rw [doInvoke_state]
    exact st2 _ ht
end SXT
end
section
/-! EXCEPTIONS: the search through a method's handlers, and the step into the one that is found -/
section SXF
variable {Q : Handler → Pre} {E : CtlPost} {e : Env} {d : Bool} {acts : List Action} {s s₀ : State} {f : JFrame} {a : Addr}
theorem sx_go1 {x : ExceptionTableEntry} {t : List ExceptionTableEntry} {c : ClassId} {cell : Cell} (hx : covers x f.pc = true) (h0 : x.catchType ≠ 0) (hl : s.vm.ClassLinks e.platform f.method.cls x.catchType c) (hcell : s.heap[a]? = some cell) (hobj : ∀ k, cell.vm ≠ .statics k) (hk : ∃ k, s.vm.classes[cell.cls]? = some k) (hc : ∃ k, s.vm.classes[c]? = some k) :
    wp (findHandler.go f a (x :: t)) Q E e d acts s ↔ if s.vm.assignable cell.cls c = true then Q (.found x.handlerPc) d acts (s.setVm (s.vm.noted f.method.cls x.catchType (.cls c))) else wp (findHandler.go f a t) Q E e d acts (s.setVm (s.vm.noted f.method.cls x.catchType (.cls c))) := by
  simp only [covers] at hx
  obtain ⟨h1, h2⟩ := (resolveClass_links e.toSetting hl).op (op := VmOp.resolveClass f.method.cls x.catchType) rfl
  have hal : s.vm.Alike (s.vm.noted f.method.cls x.catchType (.cls c)) := (Vm.Alike.refl s.vm).noted _ _ _
  obtain ⟨k1, hk1⟩ := hk
  obtain ⟨k2, hk2⟩ := hc
  obtain ⟨k1', hk1', -⟩ := hal.2.2 _ _ hk1
  obtain ⟨k2', hk2', -⟩ := hal.2.2 _ _ hk2
  cases hz : s.vm.assignable cell.cls c with
  | true =>
    have hz' : (s.vm.noted f.method.cls x.catchType (.cls c)).assignable cell.cls c = true := by rw [hal.assignable]; exact hz
    simp [findHandler.go, hx, h0, h1, h2, hcell, hobj, hk1', hk2', hz', VmOp.dirties, VmOp.acts]
  | false =>
    have hz' : (s.vm.noted f.method.cls x.catchType (.cls c)).assignable cell.cls c = false := by rw [hal.assignable]; exact hz
    simp [findHandler.go, hx, h0, h1, h2, hcell, hobj, hk1', hk2', hz', VmOp.dirties, VmOp.acts]
/-- the search comes to the handler at h: rows that don't cover the place, or whose class doesn't take the object, are passed -/
def sx_hit (pl : Platform) (s₀ : State) (dd : ClassId) (pc : Nat) (thrown : ClassId) (h : Nat) : List ExceptionTableEntry → Prop
  | [] => False
  | y :: r => (covers y pc = false ∧ sx_hit pl s₀ dd pc thrown h r) ∨ (covers y pc = true ∧ y.catchType ≠ 0 ∧ ∃ c, s₀.vm.ClassLinks pl dd y.catchType c ∧ ((s₀.vm.assignable thrown c = true ∧ y.handlerPc = h) ∨ (s₀.vm.assignable thrown c = false ∧ sx_hit pl s₀ dd pc thrown h r)))
theorem sx_go {cell : Cell} {h : Nat} (hobj : ∀ k, cell.vm ≠ .statics k) (hk0 : ∃ k, s₀.vm.classes[cell.cls]? = some k) : ∀ (rows : List ExceptionTableEntry) (S : State), s₀.WarmedH S.vm → S.heap[a]? = some cell → sx_hit e.platform s₀ f.method.cls f.pc cell.cls h rows →
    ∃ vm', s₀.WarmedH vm' ∧ ∀ (Q : Handler → Pre) (E : CtlPost) (d : Bool) (acts : List Action), wp (findHandler.go f a rows) Q E e d acts S ↔ Q (.found h) d acts (S.setVm vm') := by
  obtain ⟨k0, hk0⟩ := hk0
  intro rows
  induction rows with
  | nil => intro S _ _ hh; exact absurd hh id
  | cons y r ih =>
    intro S hW hcell hh
    obtain ⟨k0', hk0', -⟩ := hW.alike.2.2 _ _ hk0
    rcases hh with ⟨hc, hh⟩ | ⟨hc, h0, c, hl, hh⟩
    · obtain ⟨vm', hW', hq⟩ := ih S hW hcell hh
      exact ⟨vm', hW', fun Q E d acts => (W.findHandler_go_skip hc).trans (hq Q E d acts)⟩
    · obtain ⟨dk, _, _, kt, hd, _, _, _, _, hkt, _, hopen⟩ := hl.here
      obtain ⟨kt', hkt', -⟩ := hW.alike.2.2 _ _ hkt
      have hWn : s₀.WarmedH (S.vm.noted f.method.cls y.catchType (.cls c)) := hW.noted hd hopen (State.rightAt_cls hl)
      rcases hh with ⟨hz, rfl⟩ | ⟨hz, hh⟩
      · refine ⟨_, hWn, fun Q E d acts => ?_⟩
        rw [sx_go1 hc h0 (hW.classLinks hl) hcell hobj ⟨k0', hk0'⟩ ⟨kt', hkt'⟩, if_pos (by rw [hW.alike.assignable]; exact hz)]
      · obtain ⟨vm', hW', hq⟩ := ih (S.setVm (S.vm.noted f.method.cls y.catchType (.cls c))) hWn hcell hh
        refine ⟨vm', hW', fun Q E d acts => ?_⟩
        rw [sx_go1 hc h0 (hW.classLinks hl) hcell hobj ⟨k0', hk0'⟩ ⟨kt', hkt'⟩, if_neg (by rw [hW.alike.assignable, hz]; decide)]
        exact hq Q E d acts
end SXF
section SXF2
variable {p : Program} {l : Launch} {e : Env} {R : Room} {s : State} {m : MethodId} {args : Array Value} {below : List Frame} {meth : Method} {c : Code} {locs : List Loc} {cells slots : Nat} {T : State}
theorem sx_frv (u : State) (vm' : Vm) (F G : List Frame) : ((u.setFrames F).setVm vm').setFrames G = (u.setVm vm').setFrames G := by
  have h1 : (u.setFrames F).setVm vm' = (u.setVm vm').setFrames F := rfl
  rw [h1, State.setFrames_setFrames]
/-- the object flies in this method's frame, and a handler of the method takes it -/
theorem sx_catch (X : Stand p l e R s m args below meth c T locs cells slots) {g : JFrame} (hg : g.method = m) {a : Addr} {cell : Cell} {h : Nat} (hcell : T.heap[a]? = some cell) (hobj : ∀ k, cell.vm ≠ .statics k) (hk0 : ∃ k, s.vm.classes[cell.cls]? = some k) (hhit : sx_hit e.platform s m.cls g.pc cell.cls h c.exceptionTable.toList) :
    ∃ vm', Stand p l e R s m args below meth c (T.setVm vm') locs cells slots ∧ ∀ target, Steps p.tables e below ((T.setVm vm').setTop { g with pc := h, stack := [.ref a] }) target → Steps p.tables e below ((T.setTop g).pushFrame (.throwing a)) target := by
  subst hg
  obtain ⟨vm', hW', hq⟩ := sx_go (e := e) (f := g) (a := a) hobj hk0 c.exceptionTable.toList ((T.setTop g).pushFrame (.throwing a)) X.warmed hcell hhit
  refine ⟨vm', X.noted hW', fun target ht => ?_⟩
  have hAt : At T g.method c below := X.here
  obtain ⟨hgo, hw⟩ := hAt.throwing a
  refine Steps.head hgo hw ?_
  have hfind : ∀ (Q : Handler → Pre) (E : CtlPost) (d : Bool) (acts : List Action), wp (findHandler g a) Q E e d acts ((T.setTop g).pushFrame (.throwing a)) ↔ Q (.found h) d acts (((T.setTop g).pushFrame (.throwing a)).setVm vm') := by
    intro Q E d acts
    exact (W.findHandler_eq (s := (T.setTop g).pushFrame (.throwing a)) (f := g) (meth := meth) (code := c) X.method' X.code).trans (hq Q E d acts)
  have hst : (stepThrowing e ((T.setTop g).pushFrame (.throwing a)) a (.java g :: T.frames.tail)).Is ((((T.setTop g).pushFrame (.throwing a)).setVm vm').setFrames (.java { g with pc := h, stack := [.ref a] } :: T.frames.tail)) [] := by
    simp only [stepThrowing, searchFrame, vmDo]
    generalize hr : Sem.go _ e false [] ((T.setTop g).pushFrame (.throwing a)) = res
    obtain ⟨as, rfl, ha⟩ := Sem.eq_ok_of hr (a := Handler.found h) (s' := ((T.setTop g).pushFrame (.throwing a)).setVm vm') (acts' := []) (by simp [hfind _ _ _ _])
    exact ⟨rfl, ha⟩
  rw [stepThread_throwing (frames_entered hAt.top _), hst.1]
  obtain ⟨g₀, hg0⟩ := Option.isSome_iff_exists.mp hAt.top
  obtain ⟨r, hr⟩ := State.topJava?_eq_some.mp hg0
  have hr' : (T.setVm vm').frames = .java g₀ :: r := hr
  rw [State.setTop_of_frames _ hr'] at ht
  rw [hr, List.tail_cons, State.pushFrame, sx_frv, State.setTop_of_frames _ hr, sx_frv]
  exact ht
end SXF2
end
section
/-! EXCEPTIONS: a call whose callee throws -/
section SXG
variable {p : Program} {l : Launch} {e : Env} {R : Room} {s : State} {m : MethodId} {args : Array Value} {below : List Frame} {meth : Method} {c : Code} {locs : List Loc} {cells slots : Nat} {T : State}
/-- how a method that throws ends: by this object, its world W, and the frame -/
def sx_Et (base mc ms : Nat) (x : Addr) (Wd : State → Prop) : Array Value → State → Outcome → State → Prop := fun _ st o t => o = .threw x ∧ Wd t ∧ st.WarmedH t.vm ∧ ∃ L : List Loc, st.sameButNew ({ t with vm := st.vm } : State) L mc ms ∧ ∀ q ∈ L, base ≤ q.base
theorem sx_callT (X : Stand p l e R s m args below meth c T locs cells slots) (hexec : p.tables.exec = Jvm.exec) {own C : String} {index : Nat} {y : MethodName} {bytes : ByteArray} {maxL : Nat} {ret : Option FieldType} (hown : s.vm.findClass own = some m.cls) (hlink : (Cond.methodLink own index y).before args s = true) (hinst : (Cond.instanceMethod y).before args s = true) (hsel : (Cond.selects C y y).before args s = true)
    (hcode : (Cond.code y bytes maxL ret).before args s = true) (hini : (Cond.initialized y.cls).before args s = true) (hy : y.cls ≠ "java/lang/invoke/MethodHandle" ∧ y.cls ≠ "java/lang/invoke/VarHandle") {ws : List Cond} {rm : Room} {Pc : Array Value → State → Prop} {base : Nat} {x : Addr} {Wd : State → Prop}
    (hM : MetFree l y (headSpec ws rm) Pc (fun _ _ _ _ _ => True) (sx_Et base rm.cells rm.slots x Wd)) (hws : ∀ w ∈ ws, ∀ (a' : Array Value) (U : State), s.WarmedH U.vm → w.before a' U = true) (hframes : rm.frames + 1 ≤ R.frames) (hlocals : 8 + (maxL + 11) + rm.locals ≤ R.locals) (hcells : cells + rm.cells ≤ R.cells) (hslots : slots + rm.slots ≤ R.slots)
    {b : Addr} {cellB : Cell} (hcell : T.heap[b]? = some cellB) (hobj : cellB.vm.isStatics = false) (hcls : s.vm.findClass C = some cellB.cls) {g : JFrame} (hg : g.method = m) (hsize : g.locals.size = c.maxLocals) {argsL rest : List Value} (hlen : ∀ sig, parseMethodDescriptor y.desc = some sig → argsL.length = sig.parameters.length)
    (hstack : g.stack = argsL.reverse ++ .ref b :: rest) (hW8 : 2 * g.monitorRoom + (rest.map fun v => v.category).sum ≤ 8) (hdg : decode c.code g.pc = .ok (.invokevirtual index, 3)) (hP : ∀ (vm₁ : Vm) (g' : JFrame) (mk : MethodId), s.WarmedH vm₁ → Pc (Value.ref b :: argsL).toArray ((T.setVm vm₁).calling g' mk (Value.ref b :: argsL).toArray)) :
    ∃ (U : State) (L : List Loc), Stand p l e R s m args below meth c U (locs ++ L) (cells + rm.cells) (slots + rm.slots) ∧ (∀ q ∈ L, base ≤ q.base) ∧ (∃ t : State, Wd t ∧ U.heap = t.heap ∧ U.vm = t.vm) ∧ ∀ target, Steps p.tables e below ((U.setTop { g with stack := rest }).pushFrame (.throwing x)) target → Steps p.tables e below (T.setTop g) target := by
  obtain ⟨mk, methM, hnamed, hmethM, hstM, habM⟩ := Cond.instanceMethod_spec hinst
  obtain ⟨methM', cM, hmethM', hcM, -, hlM, -, -, -, hsigM⟩ := Cond.code_spec hnamed hcode
  cases hmethM.symm.trans hmethM'
  obtain ⟨c2, r2, m2, q1, q2, q3, q4, kP, hkP, hkPi⟩ := Cond.selects_spec hsel
  cases hcls.symm.trans q1
  cases (State.methodFound?_of_named hnamed hy).symm.trans q2
  cases hnamed.symm.trans q3
  have hselP : selectMethod e.platform s.vm cellB.cls mk = .method mk := by rw [Launch.admits_selectMethod X.admits]; exact q4
  obtain ⟨vm₁, X₁, hstep₁⟩ := X.invokevirtual hexec hown hlink hnamed hmethM hstM hkP hkPi hy (a := b) (cell := cellB) hcell
    (fun z h => by rw [h] at hobj; cases hobj) hselP hmethM habM hkP hkPi (g := g) hg (argsL := argsL) (rest := rest) (hlen _ hsigM) hstack hdg
  generalize hav : (Value.ref b :: argsL).toArray = av at hstep₁ hP
  generalize hU : T.setVm vm₁ = U at X₁ hstep₁
  have hPU : ∀ (g' : JFrame) (mk : MethodId), Pc av (U.calling g' mk av) := fun g' mk => by rw [← hU]; exact hP vm₁ g' mk (by have := X₁.warmed; rw [← hU] at this; exact this)
  generalize hgr : ({ g with stack := rest } : JFrame) = gr at hstep₁
  have hgm : gr.method = m := by rw [← hgr]; exact hg
  have hgs : gr.locals.size = c.maxLocals := by rw [← hgr]; exact hsize
  have hgd : decode c.code gr.pc = .ok (.invokevirtual index, 3) := by rw [← hgr]; exact hdg
  have hgw : 2 * gr.monitorRoom + (gr.stack.map fun v => v.category).sum ≤ 8 := by rw [← hgr]; exact hW8
  have hn : U.methodNamed? y = some mk := X₁.named hnamed
  have h2 : (Cond.code y bytes maxL ret).before av U = true := word_at X₁.warmed (Or.inl rfl) hcode
  have h3 : (Cond.initialized y.cls).before av U = true := word_at X₁.warmed (Or.inl rfl) hini
  obtain ⟨methY, cY, hmY, hcY, -, hlY, -, -, -, -⟩ := Cond.code_spec hn h2
  obtain ⟨kY, hkY, -⟩ := className_of_methodNamed hn
  have hinitY : kY.init = .initialized := Cond.initialized_spec (findClass_of_methodNamed hn) hkY h3
  have h : At U gr.method c below := by rw [hgm]; exact X₁.here
  have happ : (headSpec ws rm).appliesLoose y e.platform (U.calling gr mk av) = true :=
    Spec.appliesLoose_calling (g := gr) h hgd hn hkY hinitY
      (X₁.room_calling (g := gr) (R' := rm) hgs hmY hcY hframes (by rw [hlY]; omega) hcells hslots) (atoms_intro fun w hw => hws w hw _ _ X₁.warmed)
  obtain ⟨mid, hmid⟩ := h.above
  have hfr : (U.setTop gr).frames = (.java gr :: mid) ++ below := by rw [State.frames_setTop' gr h.top, hmid]; rfl
  obtain ⟨o, s₂, hsteps, -, hend, hq⟩ := Steps.callFree hM p X.admits X.cas X.clock (acts := []) hfr happ (hPU gr mk) trivial
  have hq' : sx_Et base rm.cells rm.slots x Wd av (U.calling gr mk av) o s₂ := hq
  obtain ⟨rfl, hwd, hW₂, L, ⟨e2, q2', q3', q4', q5', q6'⟩, hL⟩ := hq'
  rw [State.frames_setTop' gr h.top] at hend
  have e3 : s₂ = ({ (U.calling gr mk av).setFrames s₂.frames with heap := s₂.heap, slotsUsed := s₂.slotsUsed } : State).setVm s₂.vm := by
    have hz : s₂ = ({ s₂ with vm := (U.calling gr mk av).vm } : State).setVm s₂.vm := rfl
    rw [e2] at hz
    exact hz
  have hf₂ : s₂.frames = .throwing x :: .java gr :: U.frames.tail := hend
  have hW' : U.WarmedH s₂.vm := hW₂
  obtain ⟨g₀, hg0⟩ := Option.isSome_iff_exists.mp h.top
  obtain ⟨r, hr⟩ := State.topJava?_eq_some.mp hg0
  have hs₂ : s₂ = ((({ U with heap := s₂.heap, slotsUsed := s₂.slotsUsed } : State).setVm s₂.vm).setTop gr).pushFrame (.throwing x) := by
    have hr' : (({ U with heap := s₂.heap, slotsUsed := s₂.slotsUsed } : State).setVm s₂.vm).frames = .java g₀ :: r := hr
    refine e3.trans ?_
    rw [hf₂, State.calling_eq h.top, State.setFrames_setFrames, State.pushFrame, State.frames_setTop _ hr', State.setTop_of_frames _ hr', State.setFrames_setFrames, hr]
    rfl
  have hsame : U.sameButNew ({ U with heap := s₂.heap, slotsUsed := s₂.slotsUsed } : State) L rm.cells rm.slots := by
    refine ⟨?_, q2', q3', q4', q5', q6'⟩
    obtain ⟨t, ht, -⟩ := State.frames_cons hr
    show ({ U with heap := s₂.heap, slotsUsed := s₂.slotsUsed } : State) = { U.setFrames U.frames with heap := s₂.heap, slotsUsed := s₂.slotsUsed }
    rw [State.setFrames_self ht]
  refine ⟨({ U with heap := s₂.heap, slotsUsed := s₂.slotsUsed } : State).setVm s₂.vm, L,
    ⟨X₁.admits, X₁.cas, X₁.clock, X₁.frames, X₁.room, X₁.hears, X₁.method, X₁.code, (X₁.here.setHeapUsed s₂.heap s₂.slotsUsed).setVm hW'.alike, X₁.tail, State.WarmedH.trans X₁.warmed hW', X₁.limits, X₁.bytes, X₁.same.trans (hsame.setVm s.vm)⟩, hL, ⟨s₂, hwd, rfl, rfl⟩, fun target ht => hstep₁ _ fun acts => ?_⟩
  rw [doInvoke_state]
  rw [← hs₂] at ht
  exact hsteps.trans ht
end SXG
end
section
/-! THE ABSTRACT MACHINE: methods, calls, ends -/
/-- a method: name, bytes, locals, what it returns, its parameters (without its object), whether it is a constructor, its instructions with the numbers of what they link -/
abbrev sx_M : Type := MethodName × ByteArray × Nat × Option FieldType × Nat × Bool × (Nat → Option (Instr × Nat × Nat × Nat)) × List (Nat × Nat × Nat × Nat × List Nat)
/-- returned (with what), or threw (the object's place); heap; cells and slots made -/
abbrev sx_Res : Type := (Option Value ⊕ Nat) × sx_H × Nat × Nat
/-- the handler for an exception of number j at pc -/
def sx_find (hh : List (Nat × Nat × Nat × Nat × List Nat)) (pc j : Nat) : Option Nat := match hh with
  | [] => none
  | h :: r => if h.1 ≤ pc ∧ pc < h.2.1 then (if j ∈ h.2.2.2.2 then some h.2.2.1 else sx_find r pc j) else sx_find r pc j
def sx_plus (dc ds : Nat) (r : Option sx_Res) : Option sx_Res := r.bind fun q => some (q.1, q.2.1, dc + q.2.2.1, ds + q.2.2.2)
/-- 0: goes on; 1: an end; 2: a call; 3: Object's constructor; 4: a new exception is thrown -/
def sx_kd (i : Instr) (b : Nat) : Nat := match i with
  | .ireturn => 1
  | .lreturn => 1
  | .areturn => 1
  | .return_ => 1
  | .invokevirtual _ => 2
  | .invokestatic _ => 2
  | .invokespecial _ => if b = 2 then 3 else 2
  | .new _ => if b = 1 then 4 else 0
  | _ => 0
def sx_isRT (ty : FieldType) : Bool := match ty with
  | .object _ => true
  | .array _ => true
  | _ => false
def sx_end (ret : Option FieldType) (i : Instr) (len : Nat) (st : List Value) (hs : sx_H) : Option sx_Res := match i, ret, st with
  | .ireturn, some ty, [.int x] => if sx_fit ty (.int x) = true ∧ len = 1 then some (.inl (some (.int x)), hs, 0, 0) else none
  | .lreturn, some .long, [.long x] => if len = 1 then some (.inl (some (.long x)), hs, 0, 0) else none
  | .areturn, some ty, [.ref x] => if sx_isRT ty = true ∧ len = 1 then some (.inl (some (.ref x)), hs, 0, 0) else none
  | .areturn, some ty, [.null] => if sx_isRT ty = true ∧ len = 1 then some (.inl (some .null), hs, 0, 0) else none
  | .return_, none, [] => if len = 1 then some (.inl none, hs, 0, 0) else none
  | _, _, _ => none
def sx_tot (i : Instr) (n : Nat) : Nat := match i with
  | .invokestatic _ => n
  | _ => n + 1
def sx_cats (st : List Value) : Nat := (st.map fun v => v.category).sum
def sx_rcv (K0 : Nat) (hs : sx_H) (i : Instr) (b : Nat) (vals : List Value) : Bool := match i, vals with
  | .invokestatic _, _ => true
  | .invokevirtual _, .ref x :: _ => (match sx_obj hs x with
    | some o => o.1 == b && decide (K0 ≤ x)
    | none => false)
  | .invokespecial _, .ref _ :: _ => true
  | _, _ => false
def sx_isV (i : Instr) : Bool := match i with
  | .invokevirtual _ => true
  | _ => false
theorem sx_kd_new {idx b : Nat} (h0 : ¬ sx_kd (.new idx) b = 0) (h4 : ¬ sx_kd (.new idx) b = 4) : False := by
  unfold sx_kd at h0 h4
  by_cases z : b = 1
  · exact h4 (if_pos z)
  · exact h0 (if_neg z)
section SXRUN
variable (K0 : Nat) (ft : Nat → Nat → FieldType) (df : Nat → List Value) (tf : Nat → FieldType) (cst : Nat → Nat → Bool) (zs : List (String × String × String × Value)) (ks : Nat → Value) (mt : Nat → Option sx_M)
/-- n: steps; d: how deep calls may go -/
def sx_run : Nat → Nat → sx_M → Nat → List (Nat × Value) → List Value → sx_H → Option sx_Res
  | 0, _, _, _, _, _, _ => none
  | n + 1, d, M, pc, lv, st, hs => (M.2.2.2.2.2.2.1 pc).bind fun I =>
    if sx_kd I.1 I.2.2.2 = 0 then (sx_hs K0 ft df tf cst zs ks M.2.2.1 I.1 I.2.1 I.2.2.1 I.2.2.2 pc lv st hs).bind fun S => sx_plus S.2.2.1 S.2.2.2 (sx_run n d M S.1.1 S.1.2.1 S.1.2.2 S.2.1)
    else if sx_kd I.1 I.2.2.2 = 1 then sx_end M.2.2.2.1 I.1 I.2.1 st hs
    else if sx_kd I.1 I.2.2.2 = 3 then (sx_popR st).bind fun q => if 1 ≤ d ∧ sx_cats q.2 ≤ 8 then sx_run n d M (pc + 3) lv q.2 hs else none
    else if sx_kd I.1 I.2.2.2 = 4 then (if 6 ≤ d ∧ sx_cats st ≤ 8 then some (.inr hs.length, hs ++ [.inr (.inr I.2.2.1)], 1, 6) else none)
    else match d with
      | 0 => none
      | d' + 1 => (mt I.2.2.1).bind fun M' =>
        if sx_tot I.1 M'.2.2.2.2.1 ≤ st.length ∧ sx_rcv K0 hs I.1 I.2.2.2 (st.take (sx_tot I.1 M'.2.2.2.2.1)).reverse = true ∧ sx_cats (st.drop (sx_tot I.1 M'.2.2.2.2.1)) ≤ 8 ∧ (lg_sl (st.take (sx_tot I.1 M'.2.2.2.2.1)).reverse).length ≤ M'.2.2.1 then
          (sx_run n d' M' 0 (lv_args 0 (st.take (sx_tot I.1 M'.2.2.2.2.1)).reverse) [] hs).bind fun r => sx_plus r.2.2.1 r.2.2.2 (match r.1 with
            | .inl v => sx_run n (d' + 1) M (pc + 3) lv (v.toList ++ st.drop (sx_tot I.1 M'.2.2.2.2.1)) r.2.1
            | .inr x => (match r.2.1[x]? with
              | some (.inr (.inr j)) => (sx_find M.2.2.2.2.2.2.2 pc j).bind fun h => if K0 ≤ x ∧ sx_isV I.1 = true then sx_run n (d' + 1) M h lv [.ref x] r.2.1 else none
              | _ => none))
        else none
end SXRUN
section SXKM
variable (Ts xw : List Cond) (cl : List vw_C) (ft : Nat → Nat → FieldType) (df : Nat → List Value) (tf : Nat → FieldType) (nt : Nat) (zs : List (String × String × String × Value)) (ks : Nat → Value) (mt : Nat → Option sx_M) (Kw : Nat) (ex : List String) (nc : List (String × String))
/-- what a call's numbers must be -/
def sx_okJ (own : String) (i : Instr) (len a b : Nat) : Prop := match i with
  | .invokevirtual idx => len = 3 ∧ ∀ M', mt a = some M' → Cond.methodLink own idx M'.1 ∈ Ts ∧ Cond.instanceMethod M'.1 ∈ Ts ∧ Cond.selects M'.1.cls M'.1 M'.1 ∈ Ts ∧ M'.2.2.2.2.2.2.2 = [] ∧ ∃ r : vw_C, cl[b]? = some r ∧ r.1 = M'.1.cls
  | .invokestatic idx => len = 3 ∧ ∀ M', mt a = some M' → Cond.methodLink own idx M'.1 ∈ Ts ∧ Cond.static M'.1 ∈ Ts
  | .invokespecial idx => len = 3 ∧ (b = 2 → Cond.methodLink own idx Lib.objectInit ∈ Ts ∧ Cond.instanceMethod Lib.objectInit ∈ Ts ∧ Cond.code Lib.objectInit ⟨#[0xb1]⟩ 1 none ∈ Ts) ∧ (b ≠ 2 → ∀ M', mt a = some M' → Cond.instanceMethod M'.1 ∈ Ts ∧ M'.1.name = "<init>" ∧ M'.2.2.2.1 = none ∧ M'.2.2.2.2.2.2.2 = [] ∧ (Cond.methodLink own idx M'.1 ∈ Ts ∨ ∃ host : String, Cond.methodLinkNest own idx M'.1 host ∈ xw))
  | _ => True
/-- words on the heap that a thrown object's constructor asks -/
def sx_ew : List Cond := [.laysStatic Bundle.tN "UNASSIGNED_STACK" Bundle.steD, .laysStatic Bundle.tN "SUPPRESSED_SENTINEL" Bundle.listD, .isRef (.static Bundle.tN "UNASSIGNED_STACK" Bundle.steD), .isRef (.static Bundle.tN "SUPPRESSED_SENTINEL" Bundle.listD)]
/-- what a throw must be: 'new X; dup; X.<init>(); athrow' -/
def sx_okT (own : String) (cc : ByteArray) (pc : Nat) (i : Instr) (a b : Nat) : Prop := match i with
  | .new idx => b = 1 → ∃ (X : String) (names : List String) (ic : Nat), ex[a]? = some X ∧ Bundle.fit X = true ∧ (∀ n ∈ names, Bundle.fit n = true) ∧ names.length ≤ 2 ∧ Cond.classLink own idx X ∈ Ts ∧ Cond.instantiable X 6 ∈ Ts ∧ Cond.initialized X ∈ Ts ∧ decode cc (pc + 3) = .ok (.dup, 1) ∧ decode cc (pc + 4) = .ok (.invokespecial ic, 3) ∧ decode cc (pc + 7) = .ok (.athrow, 1) ∧ ∀ w ∈ Bundle.ownAtoms0 own ic X names, w ∈ Ts ∨ w ∈ xw ∨ w ∈ sx_ew
  | _ => True
/-- what a method's handlers must be -/
def sx_okH (own : String) (hh : List (Nat × Nat × Nat × Nat × List Nat)) : Prop := ∀ h ∈ hh, h.2.2.2.1 ≠ 0 ∧ ∃ nm : String, Cond.classLink own h.2.2.2.1 nm ∈ Ts ∧ ∀ (j : Nat) (X : String), ex[j]? = some X → if j ∈ h.2.2.2.2 then Cond.castable X nm ∈ xw else (X, nm) ∈ nc
def sx_raw (hh : List (Nat × Nat × Nat × Nat × List Nat)) : List (Nat × Nat × Nat × Nat) := hh.map fun h => (h.1, h.2.1, h.2.2.1, h.2.2.2.1)
/-- the word on a method's code -/
def sx_cw (M : sx_M) : Cond := match M.2.2.2.2.2.2.2 with
  | [] => .code M.1 M.2.1 M.2.2.1 M.2.2.2.1
  | hh => .codeWith M.1 M.2.1 M.2.2.1 M.2.2.2.1 (sx_raw hh)
/-- what a method must be -/
def sx_okM (M : sx_M) : Prop := plainName M.1.cls = true ∧ sx_cw M ∈ Ts ∧ Cond.initialized M.1.cls ∈ Ts ∧ (M.1.cls ≠ "java/lang/invoke/MethodHandle" ∧ M.1.cls ≠ "java/lang/invoke/VarHandle" ∧ (parseMethodDescriptor M.1.desc).map (fun d => d.parameters.length) = some M.2.2.2.2.1) ∧ M.2.2.1 + 19 ≤ Kw ∧ (M.2.2.2.2.2.1 = true → M.1.name = "<init>") ∧ sx_okH Ts xw ex nc M.1.cls M.2.2.2.2.2.2.2 ∧
  ∀ pc i len a b, M.2.2.2.2.2.2.1 pc = some (i, len, a, b) → decode M.2.1 pc = .ok (i, len) ∧ sx_okI Ts xw cl ft df tf nt zs ks M.1.cls M.2.2.2.2.2.1 i len a b ∧ sx_okJ Ts xw cl mt M.1.cls i len a b ∧ (sx_kd i b = 4 → M.2.2.2.2.2.2.2 = []) ∧ sx_okT Ts xw ex M.1.cls M.2.1 pc i a b
end SXKM
/-- words that aren't kept by the tables alone, but by warmer ones -/
def sx_xk (w : Cond) : Bool := match w with
  | .methodLinkNest .. => true
  | .castable .. => true
  | .arrayOver (.object _) => true
  | .declares _ => true
  | _ => false
theorem sx_xk_warm {w : Cond} (hk : sx_xk w = true) {s U : State} (hW : s.WarmedH U.vm) (h : va_Nw w s) : va_Nw w U := by
  unfold sx_xk at hk
  split at hk
  · exact va_Nw.warmM hW h
  · exact va_Nw.warmC hW h
  · exact va_AO.moved hW.alike h
  · exact va_Nw.warmD hW h
  · cases hk
theorem sx_up_args (ua : Nat → Nat) (vals : List Value) : ∀ i : Nat, sx_upL ua (lv_args i vals) = lv_args i (vals.map (sx_up ua)) := by
  induction vals with
  | nil => intro i; rfl
  | cons v r ih =>
    intro i
    show (i, sx_up ua v) :: sx_upL ua (lv_args (if v.category = 2 then i + 2 else i + 1) r) = (i, sx_up ua v) :: lv_args (if (sx_up ua v).category = 2 then i + 2 else i + 1) (r.map (sx_up ua))
    rw [sx_cat, ih]
theorem sx_up_words (ua : Nat → Nat) (vals : List Value) : (lg_sl (vals.map (sx_up ua))).length = (lg_sl vals).length := by
  induction vals with
  | nil => rfl
  | cons v r ih =>
    unfold lg_sl at ih ⊢
    simp only [List.map_cons, List.flatMap_cons, List.length_append, sx_cat, ih]
    split <;> rfl
theorem sx_up_cats (ua : Nat → Nat) (st : List Value) : ((sx_upS ua st).map fun v => v.category).sum = sx_cats st := by
  unfold sx_cats sx_upS
  rw [List.map_map]
  congr 2
  funext v
  exact sx_cat ua v
section SXQ
variable (D : va_G) (cl : List vw_C) (tys : List (ClassId × FieldType)) (ex : List String) (zs : List (String × String × String × Value)) (K0 base : Nat) (ua : Nat → Nat) (xw : List Cond) (nc : List (String × String))
def sx_Qc (v : Option Value) (hs : sx_H) : Array Value → State → Outcome → State → Prop := fun _ _ o t => o = .returned (v.map (sx_up ua)) ∧ sx_R D cl tys ex zs K0 base ua t hs t.heap
def sx_Pc (vals : List Value) (hs : sx_H) : Array Value → State → Prop := va_Pc (vals.map (sx_up ua)) (fun U => sx_R D cl tys ex zs K0 base ua U hs U.heap ∧ va_K D cl tys U ∧ (∀ w ∈ xw, va_Nw w U) ∧ ∀ q ∈ nc, va_Nc q.1 q.2 U)
end SXQ
section SXC
variable {p : Program} {l : Launch} {e : Env} {R : Room} {s : State} {m : MethodId} {args : Array Value} {below : List Frame} {meth : Method} {c : Code} {H : Heap} {locs : List Loc} {cells slots : Nat} {Q : State → Prop}
variable {cc : ByteArray} {pc nL : Nat} {ls : Array Slot} {lv : List (Nat × Value)} {st : List Value}
variable {D : va_G} {cl : List vw_C} {tys : List (ClassId × FieldType)} {ex : List String} {zs : List (String × String × String × Value)} {K0 base : Nat} {ua : Nat → Nat} {hs hs1 : sx_H} {xw : List Cond} {nc : List (String × String)} {vals : List Value}
theorem sx_blind (hxk : ∀ w ∈ xw, sx_xk w = true) : FrameBlind (sx_Pc D cl tys ex zs K0 base ua xw nc vals hs) := by
  intro a U g mk h
  obtain ⟨h1, h2, h3, h4, h5⟩ := h
  exact ⟨h1, sx_R.moved (u := U) (U := U.calling g mk a) (Vm.Alike.refl U.vm) h2, va_K.moved (u := U) (U := U.calling g mk a) (Vm.Alike.refl U.vm) h3, fun w hw => sx_xk_warm (s := U) (U := U.calling g mk a) (hxk w hw) (State.WarmedH.refl U) (h4 w hw), fun q hq => va_Nc.moved (u := U) (U := U.calling g mk a) (Vm.Alike.refl U.vm) (h5 q hq)⟩
theorem sx_pre (hxk : ∀ w ∈ xw, sx_xk w = true) (hK : va_K D cl tys s) (hxw : ∀ w ∈ xw, va_Nw w s) (hnc : ∀ q ∈ nc, va_Nc q.1 q.2 s) (hR : sx_R D cl tys ex zs K0 base ua s hs H) : ∀ U : State, U.heap = H → s.WarmedH U.vm → sx_Pc D cl tys ex zs K0 base ua xw nc vals hs (vals.map (sx_up ua)).toArray U := by
  intro U hU hW
  exact ⟨rfl, by rw [hU]; exact hR.moved hW.alike, hK.moved hW.alike, fun w hw => sx_xk_warm (hxk w hw) hW (hxw w hw), fun q hq => (hnc q hq).moved hW.alike⟩
theorem sx_after {st0 rest : List Value} {v : Option Value} {a : Array Value} {mc ms : Nat} (hr : va_Run p l e R s m args below meth c H locs cells slots mc ms (F0 m pc ls st0) (sx_upS ua rest) (sx_Qc D cl tys ex zs K0 base ua v hs1 a) (fun q => base ≤ q)) (hL : ∀ q ∈ locs, base ≤ q.base)
    (kk : ∀ (H1 : Heap) (locs1 : List Loc), sx_R D cl tys ex zs K0 base ua s hs1 H1 → (∀ q ∈ locs1, base ≤ q.base) → W p l e R s m args below meth c H1 locs1 (cells + mc) (slots + ms) Q (F0 m (pc + 3) ls (sx_upS ua (v.toList ++ rest)))) : W p l e R s m args below meth c H locs cells slots Q (F0 m pc ls st0) := by
  intro T hT X
  obtain ⟨v', st₀, t, T', L, h0, X', hL', e1, e2, ⟨hv, hR1⟩, stp⟩ := hr T hT X
  cases hv
  obtain ⟨t2, a1, b1⟩ := kk T'.heap (locs ++ L) (by rw [e1]; exact hR1.moved (by rw [← e2]; exact X'.warmed.alike.symm)) (fun q hq => (List.mem_append.mp hq).elim (hL q) (hL' q)) T' rfl X'
  refine ⟨t2, stp t2 ?_, b1⟩
  have es : sx_upS ua (v.toList ++ rest) = (v.map (sx_up ua)).toList ++ sx_upS ua rest := by
    cases v <;> rfl
  rw [es] at a1
  exact a1
end SXC
end
section
/-! THE ABSTRACT MACHINE IS SOUND: what it answers, the machine does (methods that return) -/
theorem sx_end_inv {ret : Option FieldType} {i : Instr} {len : Nat} {st : List Value} {hs hs1 : sx_H} {v : Option Value ⊕ Nat} {dc ds : Nat} (h : sx_end ret i len st hs = some (v, hs1, dc, ds)) : len = 1 ∧ hs1 = hs ∧ dc = 0 ∧ ds = 0 ∧ ((i = .ireturn ∧ ∃ (ty : FieldType) (x : Int32), ret = some ty ∧ st = [.int x] ∧ v = .inl (some (.int x)) ∧ sx_fit ty (.int x) = true) ∨ (i = .lreturn ∧ ret = some .long ∧ ∃ x : Int64, st = [.long x] ∧ v = .inl (some (.long x))) ∨ (i = .areturn ∧ ∃ ty : FieldType, ret = some ty ∧ sx_isRT ty = true ∧ ((∃ x : Nat, st = [.ref x] ∧ v = .inl (some (.ref x))) ∨ (st = [.null] ∧ v = .inl (some .null)))) ∨ (i = .return_ ∧ ret = none ∧ st = [] ∧ v = .inl none)) := by
  unfold sx_end at h
  split at h
  · rename_i ty x
    by_cases hc : sx_fit ty (.int x) = true ∧ len = 1
    · rw [if_pos hc] at h
      cases h
      exact ⟨hc.2, rfl, rfl, rfl, Or.inl ⟨rfl, ty, x, rfl, rfl, rfl, hc.1⟩⟩
    · rw [if_neg hc] at h
      cases h
  · rename_i x
    by_cases hc : len = 1
    · rw [if_pos hc] at h
      cases h
      exact ⟨hc, rfl, rfl, rfl, Or.inr (Or.inl ⟨rfl, rfl, x, rfl, rfl⟩)⟩
    · rw [if_neg hc] at h
      cases h
  · rename_i ty x
    by_cases hc : sx_isRT ty = true ∧ len = 1
    · rw [if_pos hc] at h
      cases h
      exact ⟨hc.2, rfl, rfl, rfl, Or.inr (Or.inr (Or.inl ⟨rfl, ty, rfl, hc.1, Or.inl ⟨x, rfl, rfl⟩⟩))⟩
    · rw [if_neg hc] at h
      cases h
  · rename_i ty
    by_cases hc : sx_isRT ty = true ∧ len = 1
    · rw [if_pos hc] at h
      cases h
      exact ⟨hc.2, rfl, rfl, rfl, Or.inr (Or.inr (Or.inl ⟨rfl, ty, rfl, hc.1, Or.inr ⟨rfl, rfl⟩⟩))⟩
    · rw [if_neg hc] at h
      cases h
  · by_cases hc : len = 1
    · rw [if_pos hc] at h
      cases h
      exact ⟨hc, rfl, rfl, rfl, Or.inr (Or.inr (Or.inr ⟨rfl, rfl, rfl, rfl⟩))⟩
    · rw [if_neg hc] at h
      cases h
  · cases h
theorem sx_isRT_inv {ty : FieldType} (h : sx_isRT ty = true) : (∃ n, ty = .object n) ∨ ∃ t, ty = .array t := by
  unfold sx_isRT at h
  split at h
  · exact Or.inl ⟨_, rfl⟩
  · exact Or.inr ⟨_, rfl⟩
  · cases h
theorem sx_goodIn {Ts : List Cond} (hG : ∀ w ∈ Ts, goodWord w = true) (ws : List Cond) (h : ∀ w ∈ ws, w ∈ Ts) : GoodIn Ts ws := fun w hw => ⟨h w hw, good_of_word (hG w (h w hw))⟩
theorem sx_take {st vals : List Value} {k : Nat} (h : (st.take k).reverse = vals) : st = vals.reverse ++ st.drop k := by
  rw [← h, List.reverse_reverse, List.take_append_drop]
theorem sx_rcvV {K0 : Nat} {hs : sx_H} {idx b : Nat} {vals : List Value} (h : sx_rcv K0 hs (.invokevirtual idx) b vals = true) : ∃ (x : Nat) (As fs : List Value), vals = .ref x :: As ∧ hs[x]? = some (.inr (.inl (b, fs))) ∧ K0 ≤ x := by
  unfold sx_rcv at h
  split at h
  · rename_i hc
    cases hc
  · rename_i x As hi
    split at h
    · rename_i o ho
      obtain ⟨ci, fs⟩ := o
      simp only [Bool.and_eq_true, beq_iff_eq, decide_eq_true_eq] at h
      obtain ⟨rfl, hx⟩ := h
      exact ⟨x, As, fs, rfl, sx_obj_inv ho, hx⟩
    · cases h
  · rename_i hc
    cases hc
  · cases h
theorem sx_rcvI {K0 : Nat} {hs : sx_H} {idx b : Nat} {vals : List Value} (h : sx_rcv K0 hs (.invokespecial idx) b vals = true) : ∃ (x : Nat) (As : List Value), vals = .ref x :: As := by
  unfold sx_rcv at h
  split at h
  · rename_i hc
    cases hc
  · rename_i hc
    cases hc
  · exact ⟨_, _, rfl⟩
  · cases h
/-- the handlers that the abstract machine finds are those of the machine -/
theorem sx_hit_of {pl : Platform} (hpl : pl.magicAccessors = ({} : Platform).magicAccessors) {s : State} {own : String} {m : MethodId} {args : Array Value} {Ts xw : List Cond} {ex : List String} {nc : List (String × String)} (hown : s.vm.findClass own = some m.cls) (hts : ∀ w ∈ Ts, w.before args s = true) (hxw : ∀ w ∈ xw, va_Nw w s) (hnc : ∀ q ∈ nc, va_Nc q.1 q.2 s) {X : String} {j pc h : Nat} {cX : ClassId} (hex : ex[j]? = some X) (hfX : s.vm.findClass X = some cX) :
    ∀ (hh : List (Nat × Nat × Nat × Nat × List Nat)) (t : List ExceptionTableEntry), t.map (fun y => (y.startPc, y.endPc, y.handlerPc, y.catchType)) = sx_raw hh → sx_okH Ts xw ex nc own hh → sx_find hh pc j = some h → sx_hit pl s m.cls pc cX h t := by
  intro hh
  induction hh with
  | nil => intro t _ _ hf; cases hf
  | cons q r ih =>
    intro t ht hok hf
    cases t with
    | nil => cases ht
    | cons y t' =>
      obtain ⟨q1, q2, q3, q4, q5⟩ := q
      simp only [sx_raw, List.map_cons, List.cons.injEq, Prod.mk.injEq] at ht
      obtain ⟨⟨e1, e2, e3, e4⟩, ht⟩ := ht
      obtain ⟨hne, nm, hlk, hcs⟩ := hok _ List.mem_cons_self
      dsimp only at hne hlk hcs
      have ihr := ih t' ht (fun z hz => hok z (List.mem_cons_of_mem _ hz))
      unfold sx_find at hf
      dsimp only at hf
      by_cases hcov : q1 ≤ pc ∧ pc < q2
      · rw [if_pos hcov] at hf
        obtain ⟨c', hc', hl⟩ := Cond.classLink_spec hown (hts _ hlk) pl hpl
        refine Or.inr ⟨by simp [covers, e1, e2, hcov], by rw [e4]; exact hne, c', by rw [e4]; exact hl, ?_⟩
        have hj := hcs j X hex
        by_cases hm : j ∈ q5
        · rw [if_pos hm] at hf hj
          cases hf
          obtain ⟨c1, t1, g1, g2, g3⟩ := Cond.castable_spec (va_Nw.use (A := args) rfl (hxw _ hj))
          cases hfX.symm.trans g1
          cases hc'.symm.trans g2
          exact Or.inl ⟨g3, e3⟩
        · rw [if_neg hm] at hf hj
          obtain ⟨c1, t1, g1, g2, g3⟩ := hnc _ hj
          cases hfX.symm.trans g1
          cases hc'.symm.trans g2
          exact Or.inr ⟨g3, ihr hf⟩
      · rw [if_neg hcov] at hf
        refine Or.inl ⟨?_, ihr hf⟩
        simp only [covers, e1, e2]
        rw [← Bool.not_eq_true]
        intro hz
        simp only [Bool.and_eq_true, decide_eq_true_eq] at hz
        exact hcov hz
/-- a call of a static method that has handlers -/
theorem sx_runSW {p : Program} {l : Launch} {e : Env} {R : Room} {s : State} {m : MethodId} {args : Array Value} {below : List Frame} {meth : Method} {c : Code} {H : Heap} {locs : List Loc} {cells slots : Nat} {y : MethodName} {bytes cc : ByteArray} {maxL nL mc ms n index : Nat} {ret : Option FieldType} {hh : List (Nat × Nat × Nat × Nat)} {ws : List Cond} {rm : Room} {Pc : Array Value → State → Prop} {Qc : Array Value → State → Outcome → State → Prop} {free : Addr → Prop} {Ts : List Cond} {own : String} {As rest : List Value} {g : JFrame}
    (S : CallFix p m c cc nL s args Ts own) (hM : Met l y ws rm Pc Qc mc ms free) (hrc : rm.cells = mc) (hrs : rm.slots = ms) (hfr : rm.frames + 1 ≤ R.frames) (hlo : 8 + (maxL + 11) + rm.locals ≤ R.locals) (hws : ∀ w ∈ ws, ∀ (a' : Array Value) (U : State), s.WarmedH U.vm → w.before a' U = true) (hcw : Cond.codeWith y bytes maxL ret hh ∈ ws) (hini : (Cond.initialized y.cls).before args s = true) (hy : y.cls ≠ "java/lang/invoke/MethodHandle" ∧ y.cls ≠ "java/lang/invoke/VarHandle" ∧ (parseMethodDescriptor y.desc).map (fun d => d.parameters.length) = some n) (hl : (Cond.methodLink own index y).before args s = true) (hstt : (Cond.static y).before args s = true) (hp : PreS s H Pc As)
    (hg : g.method = m) (hn : As.length = n) (hsize : g.locals.size = nL) (hstack : g.stack = As.reverse ++ rest) (hW : 2 * g.monitorRoom + (rest.map fun v => v.category).sum ≤ 8) (hdg : decode cc g.pc = .ok (.invokestatic index, 3)) (hf : cells + mc ≤ R.cells ∧ slots + ms ≤ R.slots) :
    va_Run p l e R s m args below meth c H locs cells slots mc ms g rest (Qc As.toArray) (free) := by
  have hK : Back l R p e below s args y 3 8 (PreOf R mc ms Pc) (PostOf Qc mc ms free) := va_backW (hh := hh) (bytes := bytes) (maxL := maxL) (ret := ret) hM hp.1 hrc hrs hfr hlo hws hcw (fun a' U hW => word_at hW (Or.inl (by first | rfl | simp [Cond.onTables, Cond.keeps, Cond.steady])) hini)
  obtain ⟨hx, hb, hml, ho, -⟩ := S
  intro T hT X
  obtain ⟨mk, methM, cM, hnamed, hmethM, -, -, -, -, -, -, hsigM⟩ := Cond.codeWith_spec (hws _ hcw args s (State.WarmedH.refl s))
  have hstatic : methM.isStatic = true := Cond.static_spec hnamed hmethM hstt
  obtain ⟨kP, hkP, -⟩ := className_of_methodNamed hnamed
  have hinitP : kP.init = .initialized := Cond.initialized_spec (findClass_of_methodNamed hnamed) hkP hini
  have hlen : As.length = methM.sig.parameters.length := by
    have h2 := hy.2.2
    rw [hsigM] at h2
    exact hn.trans (Option.some.inj h2).symm
  obtain ⟨vm₁, X₁, hstep₁⟩ := X.invokestatic hx ho hl hnamed hmethM hstatic hkP hinitP ⟨hy.1, hy.2.1⟩ (g := g) hg (argsL := As) (rest := rest) hlen hstack (by rw [hb]; exact hdg)
  obtain ⟨v, ⟨U', l2, c2, s2⟩, X', ⟨g', mk', t, L, e1, e2, hq, h1, hL, h2, h3⟩, hsteps⟩ := hK m meth c ⟨T.setVm vm₁, locs, cells, slots⟩ { g with stack := rest } (.invokestatic index) mk As.toArray X₁ hg (hsize.trans hml.symm) (by rw [hb]; exact hdg) hW (X₁.named hnamed) ⟨hf.1, hf.2, hp.2 (T.setVm vm₁) hT X₁.warmed⟩
  dsimp only [Pt.U, Pt.locs, Pt.cells, Pt.slots] at X' e1 e2 h1 h2 h3 hsteps
  subst h1; subst h2; subst h3
  exact ⟨v, (T.setVm vm₁).calling g' mk' As.toArray, t, U', L, hT, X', hL, e1, e2, hq, fun target h => hstep₁ _ fun acts => by rw [doInvoke_state]; exact hsteps.trans h⟩
theorem sx_xk_tab {w : Cond} (h : sx_xk w = true) : w.onTables = true ∨ ∃ C, w = .arrayOver (.object C) := by
  unfold sx_xk at h
  split at h
  · exact Or.inl rfl
  · exact Or.inl rfl
  · exact Or.inr ⟨_, rfl⟩
  · exact Or.inl rfl
  · cases h
section SXSOUND
variable {l : Launch} {D : va_G} {cl : List vw_C} {tys : List (ClassId × FieldType)} {ex : List String} {zs : List (String × String × String × Value)} {K0 base : Nat} {ua : Nat → Nat} {Ts xw : List Cond} {ft : Nat → Nat → FieldType} {df : Nat → List Value} {tf : Nat → FieldType} {nt : Nat} {cst : Nat → Nat → Bool} {ks : Nat → Value} {mt : Nat → Option sx_M} {Kw : Nat} {nc : List (String × String)}
/-- how a method ends -/
def sx_MQ (D : va_G) (cl : List vw_C) (tys : List (ClassId × FieldType)) (ex : List String) (zs : List (String × String × String × Value)) (K0 base : Nat) (ua : Nat → Nat) (r : Option Value ⊕ Nat) (hs : sx_H) (below : List Frame) (args : Array Value) (s : State) (mc ms : Nat) : State → Prop := match r with
  | .inl v => MQ below (sx_Qc D cl tys ex zs K0 base ua v hs) args s mc ms (fun q => base ≤ q)
  | .inr x => fun t => t.status = .running ∧ Ended t below (.threw (ua x)) ∧ sx_Et base mc ms (ua x) (fun t => sx_R D cl tys ex zs K0 base ua t hs t.heap) args s (.threw (ua x)) t
/-- what holds at a method's entry, of the heap there -/
def sx_E (base : Nat) (s : State) : Prop := (∀ w ∈ sx_ew, ∀ args : Array Value, w.before args s = true) ∧ ∀ (q : Nat) (cell : Cell), base ≤ q → s.heap[q]? = some cell → cell.vm.isStatics = false
theorem sx_E.of (hA : sx_A K0 base ua) {s : State} {hs : sx_H} (hR : sx_R D cl tys ex zs K0 base ua s hs s.heap) : sx_E base s := by
  refine ⟨fun w hw args => ?_, fun q cell hq hc => hR.noStat hA hq hc⟩
  simp only [sx_ew, List.mem_cons, List.not_mem_nil, or_false] at hw
  rcases hw with rfl | rfl | rfl | rfl
  · exact hR.2.2.2.2.2.1.lays args
  · exact hR.2.2.2.2.2.2.lays args
  · exact hR.2.2.2.2.2.1.isRef args
  · exact hR.2.2.2.2.2.2.isRef args
/-- a method's contract out of its body's walk -/
theorem sx_free (hA : sx_A K0 base ua) {M : sx_M} {vals : List Value} {hs hs1 : sx_H} {v : Option Value ⊕ Nat} {dc ds d : Nat} (hpl : plainName M.1.cls = true) (hwrd : (lg_sl vals).length ≤ M.2.2.1) (hI : M.2.2.2.2.2.1 = true → M.1.name = "<init>")
    (body : ∀ {p : Program} {e : Env} {R : Room} {s : State} {m : MethodId} {args : Array Value} {below : List Frame} {meth : Method} {c : Code} {H : Heap} {locs : List Loc} {cells slots : Nat} {ls : Array Slot}, p.tables.exec = Jvm.exec → c.code = M.2.1 → c.maxLocals = M.2.2.1 → c.exceptionTable.toList.map (fun y => (y.startPc, y.endPc, y.handlerPc, y.catchType)) = sx_raw M.2.2.2.2.2.2.2 → s.vm.findClass M.1.cls = some m.cls → (∀ w ∈ Ts, w.before args s = true) → (∀ w ∈ xw, va_Nw w s) → (∀ q ∈ nc, va_Nc q.1 q.2 s) → sx_E base s → va_K D cl tys s → meth.sig.returnType = M.2.2.2.1 → meth.locks = false → (M.2.2.2.2.2.1 = true → meth.name = "<init>") → lv_has ls M.2.2.1 (sx_upL ua (lv_args 0 vals)) → sx_R D cl tys ex zs K0 base ua s hs H → (∀ q ∈ locs, base ≤ q.base) → d ≤ R.frames → d * Kw ≤ R.locals → cells + dc ≤ R.cells → slots + ds ≤ R.slots →
      W p l e R s m args below meth c H locs cells slots (sx_MQ D cl tys ex zs K0 base ua v hs1 below args s (cells + dc) (slots + ds)) (F0 m 0 ls (sx_upS ua []))) :
    MetFree l M.1 (headSpec (sx_cw M :: Ts) { frames := d, cells := dc, slots := ds, locals := d * Kw }) (sx_Pc D cl tys ex zs K0 base ua xw nc vals hs) (fun _ _ _ _ _ => True) (match v with
      | .inl v => fun a st o t => sx_Qc D cl tys ex zs K0 base ua v hs1 a st o t ∧ ∃ L, FrameEnd st o t L dc ds ∧ ∀ q ∈ L, base ≤ q.base
      | .inr x => sx_Et base dc ds (ua x) (fun t => sx_R D cl tys ex zs K0 base ua t hs1 t.heap)) := by
  refine MetFree.of_bodyS (code := M.2.1) (maxLocals := M.2.2.1) (ret := M.2.2.2.1) hpl ?_ ?_
  · intro args s m h hn
    have hc := atoms_spec (ws := sx_cw M :: Ts) h _ List.mem_cons_self
    unfold sx_cw at hc
    split at hc
    · obtain ⟨meth, c, h1, h2, h3, h4, h5, h6, -, -⟩ := Cond.code_spec hn hc
      exact ⟨meth, c, h1, h2, h3, h4, h5, h6⟩
    · obtain ⟨m9, meth, c, hn9, h1, h2, h3, h4, -, h5, h6, -⟩ := Cond.codeWith_spec hc
      cases hn.symm.trans hn9
      exact ⟨meth, c, h1, h2, h3, h4, h5, h6⟩
  · intro p e s m args below meth c s₁ B hml hv _
    obtain ⟨rfl, hR, hK, hX, hnc⟩ := hv
    have hts := atoms_spec (ws := sx_cw M :: Ts) B.pre
    have hxt : c.exceptionTable.toList.map (fun y => (y.startPc, y.endPc, y.handlerPc, y.catchType)) = sx_raw M.2.2.2.2.2.2.2 := by
      have hc := hts _ List.mem_cons_self
      unfold sx_cw at hc
      split at hc
      · rename_i hnil
        have h0 := B.noHandlers hc
        have h1 : c.exceptionTable.toList = [] := List.eq_nil_of_length_eq_zero (by simpa [Array.isEmpty] using h0)
        rw [h1, hnil]
        rfl
      · obtain ⟨m9, meth9, c9, hn9, h1, h2, -, -, h5, -⟩ := Cond.codeWith_spec hc
        cases B.named.symm.trans hn9
        cases B.method.symm.trans h1
        cases (Stand.of_body B).code.symm.trans h2
        exact h5
    have hh0 : s₁.heap = s.heap := by rw [B.state]; rfl
    have hl := lv_entry (vals.map (sx_up ua)) (n := M.2.2.1) (by rw [sx_up_words]; exact hwrd)
    have hent := lg_entry_eq m (vals.map (sx_up ua)) M.2.2.1
    generalize (lg_sl (vals.map (sx_up ua)) ++ List.replicate (M.2.2.1 - (lg_sl (vals.map (sx_up ua))).length) Slot.unset).toArray = ls at hl hent
    rw [← sx_up_args] at hl
    have hb := body (R := { frames := d, cells := dc, slots := ds, locals := d * Kw }) (locs := []) (cells := 0) (slots := 0) (below := below) (e := e) B.exec B.bytes hml hxt (findClass_of_methodNamed B.named) (fun w hw => hts w (List.mem_cons_of_mem _ hw)) hX hnc (sx_E.of hA hR) hK B.returns B.notSynchronized (fun h => (name_of_methodNamed B.named B.method).1.trans (hI h)) hl hR (fun q h => by cases h) (Nat.le_refl _) (Nat.le_refl _) (by dsimp only; omega) (by dsimp only; omega)
    rw [Nat.zero_add, Nat.zero_add] at hb
    have hS := Stand.of_body B
    cases v with
    | inl v =>
      obtain ⟨t, a1, o, b1, b2, b3⟩ := hb s₁ hh0 hS
      exact ⟨t, o, by rw [hent]; exact a1, b1, b2, ⟨b3.1, b3.2⟩⟩
    | inr x =>
      obtain ⟨t, a1, b1, b2, b3⟩ := hb s₁ hh0 hS
      exact ⟨t, .threw (ua x), by rw [hent]; exact a1, b1, b2, b3⟩
set_option maxHeartbeats 4000000 in
theorem sx_sound (hfl : l.flags = pinnedFlags ++ [noTraceFlag]) (hA : sx_A K0 base ua) (hG : ∀ w ∈ Ts, goodWord w = true) (hxk : ∀ w ∈ xw, sx_xk w = true) (htf : ∀ t q, tys[t]? = some q → q.2 = tf t) (hnt : ∀ t, t < nt → ∃ cT, tys[t]? = some (cT, tf t)) (hc0 : ∀ t, cst 0 t = true → ∃ E, tf t = .object E) (hc1 : ∀ ci t, cst (ci + 1) t = true → ∃ (r : vw_C) (E : String), cl[ci]? = some r ∧ tf t = .object E ∧ (r.1 = E ∨ Cond.castable r.1 E ∈ xw)) (hKw : 20 ≤ Kw) (hmt : ∀ k M, mt k = some M → sx_okM Ts xw cl ft df tf nt zs ks mt Kw ex nc M) :
    ∀ (n d : Nat) (M : sx_M) (pc : Nat) (lv : List (Nat × Value)) (st : List Value) (hs : sx_H) (v : Option Value ⊕ Nat) (hs1 : sx_H) (dc ds : Nat), sx_okM Ts xw cl ft df tf nt zs ks mt Kw ex nc M → sx_run K0 ft df tf cst zs ks mt n d M pc lv st hs = some (v, hs1, dc, ds) →
    ∀ {p : Program} {e : Env} {R : Room} {s : State} {m : MethodId} {args : Array Value} {below : List Frame} {meth : Method} {c : Code} {H : Heap} {locs : List Loc} {cells slots : Nat} {ls : Array Slot}, p.tables.exec = Jvm.exec → c.code = M.2.1 → c.maxLocals = M.2.2.1 → c.exceptionTable.toList.map (fun y => (y.startPc, y.endPc, y.handlerPc, y.catchType)) = sx_raw M.2.2.2.2.2.2.2 → s.vm.findClass M.1.cls = some m.cls → (∀ w ∈ Ts, w.before args s = true) → (∀ w ∈ xw, va_Nw w s) → (∀ q ∈ nc, va_Nc q.1 q.2 s) → sx_E base s → va_K D cl tys s → meth.sig.returnType = M.2.2.2.1 → meth.locks = false → (M.2.2.2.2.2.1 = true → meth.name = "<init>") → lv_has ls M.2.2.1 (sx_upL ua lv) → sx_R D cl tys ex zs K0 base ua s hs H → (∀ q ∈ locs, base ≤ q.base) → d ≤ R.frames → d * Kw ≤ R.locals → cells + dc ≤ R.cells → slots + ds ≤ R.slots →
      W p l e R s m args below meth c H locs cells slots (sx_MQ D cl tys ex zs K0 base ua v hs1 below args s (cells + dc) (slots + ds)) (F0 m pc ls (sx_upS ua st)) := by
  intro n
  induction n with
  | zero =>
    intro d M pc lv st hs v hs1 dc ds hok h
    cases h
  | succ n ih =>
    intro d M pc lv st hs v hs1 dc ds hok h p e R s m args below meth c H locs cells slots ls hx hb hml hxt hown hts hxw hnc hE hK hr hlk hin hl hR hL hfr hlo hcc hss
    obtain ⟨hpl, hcd, hini, hnm, hkw, hI, hokH, hcode⟩ := id hok
    unfold sx_run at h
    obtain ⟨⟨i, len, a, b⟩, h1, h⟩ := Option.bind_eq_some_iff.mp h
    obtain ⟨hd, hoI, hoJ, hoK, hoT⟩ := hcode pc i len a b h1
    dsimp only at h
    by_cases k0 : sx_kd i b = 0
    · rw [if_pos k0] at h
      obtain ⟨⟨F, hs2, dc1, ds1⟩, h2, h⟩ := Option.bind_eq_some_iff.mp h
      obtain ⟨⟨v', hs', dc2, ds2⟩, h3, h4⟩ := Option.bind_eq_some_iff.mp h
      cases h4
      dsimp only at h3 hcc hss ⊢
      refine sx_hs_ok hx hb hA hown hts hxw hK htf hnt hc0 hc1 hin hd hoI hl hR hL h2 (by omega) (by omega) (fun ls' H1 locs1 hl' hR1 hL1 => ?_)
      have hg := ih d M F.1 F.2.1 F.2.2 hs2 _ _ dc2 ds2 hok h3 (e := e) (R := R) (below := below) (cells := cells + dc1) (slots := slots + ds1) hx hb hml hxt hown hts hxw hnc hE hK hr hlk hin hl' hR1 hL1 hfr hlo (by omega) (by omega)
      rw [Nat.add_assoc, Nat.add_assoc] at hg
      exact hg
    · rw [if_neg k0] at h
      by_cases k1 : sx_kd i b = 1
      · rw [if_pos k1] at h
        obtain ⟨rfl, rfl, rfl, rfl, hE⟩ := sx_end_inv h
        rcases hE with ⟨rfl, ty, x, h5, rfl, rfl, hf⟩ | ⟨rfl, h5, x, rfl, rfl⟩ | ⟨rfl, ty, h5, hrt, ⟨x, rfl, rfl⟩ | ⟨rfl, rfl⟩⟩ | ⟨rfl, h5, rfl, rfl⟩
        · exact W.zret (v := x) hx hb (hr.trans h5) (sx_fit_ok hf).1 (fun t ht hW => ⟨rfl, by rw [ht]; exact hR.moved hW.alike⟩) hL hd hlk
        · exact W.lret (v := x) hx hb (hr.trans h5) (fun t ht hW => ⟨rfl, by rw [ht]; exact hR.moved hW.alike⟩) hL hd hlk
        · exact W.aret (v := .ref (ua x)) hx hb (hr.trans h5) (sx_isRT_inv hrt) (Or.inr ⟨_, rfl⟩) (fun t ht hW => ⟨rfl, by rw [ht]; exact hR.moved hW.alike⟩) hL hd hlk
        · exact W.aret (v := .null) hx hb (hr.trans h5) (sx_isRT_inv hrt) (Or.inl rfl) (fun t ht hW => ⟨rfl, by rw [ht]; exact hR.moved hW.alike⟩) hL hd hlk
        · exact W.vret hx hb (hr.trans h5) (fun t ht hW => ⟨rfl, by rw [ht]; exact hR.moved hW.alike⟩) hL hd hlk
      · rw [if_neg k1] at h
        by_cases k3 : sx_kd i b = 3
        · rw [if_pos k3] at h
          obtain ⟨⟨x, r⟩, h2, h9⟩ := Option.bind_eq_some_iff.mp h
          clear h
          dsimp only at h9
          by_cases hc : 1 ≤ d ∧ sx_cats r ≤ 8
          · rw [if_pos hc] at h9
            have e1 := sx_popR_inv h2
            subst e1
            cases i with
            | invokespecial idx =>
              have hb2 : b = 2 := by
                by_cases z : b = 2
                · exact z
                · simp only [sx_kd, if_neg z] at k3
                  exact absurd k3 (by decide)
              obtain ⟨rfl, hJ, -⟩ := hoJ
              obtain ⟨j1, j2, j3⟩ := hJ hb2
              have hd1 : 1 * Kw ≤ d * Kw := Nat.mul_le_mul_right Kw hc.1
              refine W.objInit hx hb hown (hts _ j1) (hts _ j2) (hts _ j3) rfl (hl.1.trans hml.symm) (a := ua x) (rest := sx_upS ua r) rfl hd (Nat.le_trans hc.1 hfr) ?_ ?_
              · show 2 * 0 + _ + 12 ≤ _
                rw [sx_up_cats]
                have := hc.2
                omega
              · exact ih d M (pc + 3) lv r hs _ _ _ _ hok h9 hx hb hml hxt hown hts hxw hnc hE hK hr hlk hin hl hR hL hfr hlo hcc hss
            | new idx =>
              simp only [sx_kd] at k3
              split at k3 <;> exact absurd k3 (by decide)
            | _ => simp only [sx_kd] at k3; exact absurd k3 (by decide)
          · rw [if_neg hc] at h9
            cases h9
        · rw [if_neg k3] at h
          by_cases k4 : sx_kd i b = 4
          · rw [if_pos k4] at h
            by_cases hc : 6 ≤ d ∧ sx_cats st ≤ 8
            · rw [if_pos hc] at h
              cases h
              cases i with
              | new idx =>
                have hb1 : b = 1 := by
                  by_cases z : b = 1
                  · exact z
                  · simp only [sx_kd, if_neg z] at k4
                    exact absurd k4 (by decide)
                obtain ⟨X, names, ic, hex, hfit, hnfit, hnlen, j1, j2, j3, hd3, hd4, hd7, hat⟩ := hoT hb1
                have hnoH : c.exceptionTable.toList = [] := by
                  rw [hoK k4] at hxt
                  exact List.map_eq_nil_iff.mp hxt
                have hlen3 : len = 3 := hoI.1
                subst hlen3
                obtain ⟨cX, kX', hfX, hkX', -⟩ := Cond.instantiable_spec (hts _ j2)
                have hd1 : 6 * Kw ≤ d * Kw := Nat.mul_le_mul_right Kw hc.1
                intro T0 hT0 X0
                have hsz : s.heap.size ≤ H.size := by rw [← hT0]; exact X0.same.2.1
                revert T0
                show W p l e R s m args below meth c H locs cells slots _ _
                refine W.newcK hx hb hown (hts _ j1) (hts _ j2) (hts _ j3) rfl hd (by omega) (by omega) hfX rfl fun H1 kC hkC e1 z1 o1 => ?_
                refine lv_dup (pc := pc + 3) hx hb hd3 rfl ?_
                intro T hT X1
                have htr : e.platform.stackTraces = false := Launch.traces_off hfl X1.admits
                obtain ⟨vm', ce, L, hL2, hce, hcv, X2, st2⟩ := sx_ctor X1 hx htr hown hfit hnfit (fun w hw => by
                    rcases hat w hw with z | z | z
                    · exact hts w z
                    · exact (sx_xk_tab (hxk w z)).elim (fun q => va_Nw.use q (hxw w z)) (fun ⟨C, q⟩ => by subst q; exact va_AO.use (hxw _ z))
                    · exact hE.1 w z args) (fun q hq cell hcl => hE.2 _ cell (hL q hq) hcl) hfX hkC (a := H.size) (by rw [hT]; exact e1) hsz (g := F0 m (pc + 4) ls (.ref H.size :: .ref H.size :: sx_upS ua st)) rfl (hl.1.trans hml.symm) (rest := sx_upS ua st) rfl (by rw [hb]; exact hd4) (by omega) (by
                    show 2 * 0 + (1 + ((sx_upS ua st).map fun v => v.category).sum) + _ ≤ _
                    rw [sx_up_cats]
                    have h8 := hc.2
                    omega)
                obtain ⟨hwalk, hrun, hended, hWU, hsame⟩ := X2.athrowLeaves hx (g := F0 m (pc + 7) ls (.ref H.size :: sx_upS ua st)) rfl rfl rfl (by rw [hnoH]; intro z hz; cases hz) rfl (by rw [hb]; exact hd7) hlk
                have hnew := hR.new hA
                have hsz1 : H.size < H1.size := by omega
                refine ⟨_, st2 _ hwalk, hrun, by rw [hnew]; exact hended, by rw [hnew], ?_, hWU, locs ++ L, hsame, fun q hq => (List.mem_append.mp hq).elim (hL q) (fun z => by rw [hL2 q z, ← hnew]; exact sx_base hA hR.1)⟩
                have hhp : (((T.setVm vm').setCell H.size ce).setFrames (.throwing H.size :: below)).heap = H1.setIfInBounds H.size ce := by
                  show T.heap.setIfInBounds H.size ce = _
                  rw [hT]
                show sx_R D cl tys ex zs K0 base ua (((T.setVm vm').setCell H.size ce).setFrames (.throwing H.size :: below)) (hs ++ [.inr (.inr a)]) (((T.setVm vm').setCell H.size ce).setFrames (.throwing H.size :: below)).heap
                rw [hhp]
                refine sx_R.moved hWU.alike ?_
                refine hR.push hA (by rw [Array.size_setIfInBounds]; exact z1) ?_ (fun q hq => by rw [Array.getElem?_setIfInBounds_ne (Nat.ne_of_gt hq)]; exact o1 q hq)
                exact ⟨ce, X, hex, by rw [Array.getElem?_setIfInBounds_self_of_lt hsz1], by rw [hcv]; rfl, by rw [hce]; exact hfX⟩
              | invokespecial idx =>
                simp only [sx_kd] at k4
                split at k4 <;> exact absurd k4 (by decide)
              | _ => simp only [sx_kd] at k4; exact absurd k4 (by decide)
            · rw [if_neg hc] at h
              cases h
          rw [if_neg k4] at h
          cases d with
          | zero => cases h
          | succ d' =>
            dsimp only at h
            obtain ⟨M', hM', h⟩ := Option.bind_eq_some_iff.mp h
            have hok' := hmt _ _ hM'
            obtain ⟨y', cc', mL', rt', na', iI', cd', hh'⟩ := M'
            dsimp only at h
            by_cases hc : sx_tot i na' ≤ st.length ∧ sx_rcv K0 hs i b (st.take (sx_tot i na')).reverse = true ∧ sx_cats (st.drop (sx_tot i na')) ≤ 8 ∧ (lg_sl (st.take (sx_tot i na')).reverse).length ≤ mL'
            · rw [if_pos hc] at h
              obtain ⟨⟨v1, hs2, dc1, ds1⟩, h2, h⟩ := Option.bind_eq_some_iff.mp h
              obtain ⟨⟨v2, hs3, dc2, ds2⟩, h3, h4⟩ := Option.bind_eq_some_iff.mp h
              cases h4
              dsimp only at h2 h3 hcc hss ⊢
              obtain ⟨hc1', hc2, hc3, hc4⟩ := hc
              obtain ⟨hpl', hcd', hini', hnm', hkw', hI', -, -⟩ := id hok'
              dsimp only at hpl' hcd' hini' hnm' hkw' hI'
              generalize hvals : (st.take (sx_tot i na')).reverse = vals at h2 hc2 hc4
              generalize hrest : st.drop (sx_tot i na') = rest at h3 hc3
              have hstk : st = vals.reverse ++ rest := by rw [← hrest]; exact sx_take hvals
              have hlen : vals.length = sx_tot i na' := by rw [← hvals, List.length_reverse, List.length_take]; omega
              have hMF := sx_free (l := l) (D := D) (tys := tys) (ex := ex) (base := base) (ua := ua) (nc := nc) (M := (y', cc', mL', rt', na', iI', cd', hh')) (d := d') (Kw := Kw) hA hpl' hc4 hI' (ih d' _ 0 _ [] hs v1 hs2 dc1 ds1 hok' h2)
              dsimp only at hMF
              have hroom : d' + 1 ≤ R.frames ∧ 8 + (mL' + 11) + d' * Kw ≤ R.locals := by
                refine ⟨hfr, ?_⟩
                have h7 : (d' + 1) * Kw = d' * Kw + Kw := Nat.succ_mul d' Kw
                omega
              have hW8 : 2 * (F0 m pc ls (sx_upS ua st)).monitorRoom + ((sx_upS ua rest).map fun v => v.category).sum ≤ 8 := by
                show 2 * 0 + _ ≤ 8
                rw [sx_up_cats]
                omega
              cases v1 with
              | inl w1 =>
                have hMet : Met l y' (sx_cw (y', cc', mL', rt', na', iI', cd', hh') :: Ts) { frames := d', cells := dc1, slots := ds1, locals := d' * Kw } (sx_Pc D cl tys ex zs K0 base ua xw nc vals hs) (sx_Qc D cl tys ex zs K0 base ua w1 hs2) dc1 ds1 (fun q => base ≤ q) := hMF
                have hgo : ∀ (H1 : Heap) (locs1 : List Loc), sx_R D cl tys ex zs K0 base ua s hs2 H1 → (∀ q ∈ locs1, base ≤ q.base) → W p l e R s m args below meth c H1 locs1 (cells + dc1) (slots + ds1) (sx_MQ D cl tys ex zs K0 base ua v2 hs3 below args s (cells + (dc1 + dc2)) (slots + (ds1 + ds2))) (F0 m (pc + 3) ls (sx_upS ua (w1.toList ++ rest))) := by
                  intro H1 locs1 hR1 hL1
                  have hg := ih (d' + 1) M (pc + 3) lv (w1.toList ++ rest) hs2 _ _ dc2 ds2 hok h3 (e := e) (R := R) (below := below) (cells := cells + dc1) (slots := slots + ds1) hx hb hml hxt hown hts hxw hnc hE hK hr hlk hin hl hR1 hL1 hfr hlo (by omega) (by omega)
                  rw [Nat.add_assoc, Nat.add_assoc] at hg
                  exact hg
                cases i with
                | invokevirtual idx =>
                  obtain ⟨rfl, hJ⟩ := hoJ
                  obtain ⟨j1, j2, j3, j5, rr, hrr, hrn⟩ := hJ _ hM'
                  dsimp only at j1 j2 j3 j5 hrn
                  subst j5
                  obtain ⟨x, As, fs, rfl, hxo, hxK⟩ := sx_rcvV hc2
                  refine sx_after (va_runV (C := y'.cls) (b := ua x) (As := As.map (sx_up ua)) (n := na') ⟨hx, hb, hml, hown, hts⟩ hMet (cwV na' hts (sx_goodIn hG _ ?_) rfl rfl rfl ⟨rfl, hnm'⟩ hroom) ⟨sx_blind hxk, ?_, sx_pre hxk hK hxw hnc hR⟩ rfl ?_ hl.1 ?_ hW8 hd ⟨by omega, by omega⟩) hL hgo
                  · intro w hw
                    simp only [wsV, List.mem_append, List.mem_cons, List.not_mem_nil, or_false] at hw
                    rcases hw with (rfl | rfl | rfl | rfl) | rfl | hw
                    · exact j1
                    · exact j2
                    · exact j3
                    · exact hini'
                    · exact hcd'
                    · exact hw
                  · have hv := va_recv (ci := b) (q0 := 0) hK (sx_one (D := D) (cl := cl) (a := ua x) (e := .inr (b, fs.map (sx_up ua))) (hR.2.2.1 x _ hxo hxK)) hrr rfl
                    rw [hrn] at hv
                    exact hv
                  · rw [List.length_map]
                    have : As.length + 1 = na' + 1 := hlen
                    omega
                  · show sx_upS ua st = _
                    rw [hstk]
                    simp [sx_upS, List.map_append, List.map_reverse, sx_up]
                | invokestatic idx =>
                  obtain ⟨rfl, hJ⟩ := hoJ
                  obtain ⟨j1, j2⟩ := hJ _ hM'
                  dsimp only at j1 j2
                  have hskS : sx_upS ua st = (vals.map (sx_up ua)).reverse ++ sx_upS ua rest := by
                    rw [hstk]
                    simp [sx_upS, List.map_append, List.map_reverse]
                  cases hh' with
                  | nil =>
                    refine sx_after (va_runS (As := vals.map (sx_up ua)) (n := na') ⟨hx, hb, hml, hown, hts⟩ hMet (va_cwS na' hts (sx_goodIn hG _ ?_) rfl rfl rfl hnm' hroom) ⟨sx_blind hxk, sx_pre hxk hK hxw hnc hR⟩ rfl (by rw [List.length_map]; exact hlen) hl.1 hskS hW8 hd ⟨by omega, by omega⟩) hL hgo
                    intro w hw
                    simp only [va_wsS, List.mem_append, List.mem_cons, List.not_mem_nil, or_false] at hw
                    rcases hw with (rfl | rfl | rfl) | rfl | hw
                    · exact j1
                    · exact j2
                    · exact hini'
                    · exact hcd'
                    · exact hw
                  | cons q9 r9 =>
                    exact sx_after (sx_runSW (As := vals.map (sx_up ua)) (n := na') (bytes := cc') (maxL := mL') (ret := rt') (hh := sx_raw (q9 :: r9)) ⟨hx, hb, hml, hown, hts⟩ hMet rfl rfl hroom.1 hroom.2 (pay_in hts (sx_goodIn hG _ (fun w hw => (List.mem_cons.mp hw).elim (fun z => z ▸ hcd') id))) List.mem_cons_self (hts _ hini') hnm' (hts _ j1) (hts _ j2) ⟨sx_blind hxk, sx_pre hxk hK hxw hnc hR⟩ rfl (by rw [List.length_map]; exact hlen) hl.1 hskS hW8 hd ⟨by omega, by omega⟩) hL hgo
                | invokespecial idx =>
                  have hb2 : b ≠ 2 := fun z => k3 (by simp only [sx_kd, if_pos z])
                  obtain ⟨rfl, -, hJ⟩ := hoJ
                  obtain ⟨j2, j3, j4, j5, j1⟩ := hJ hb2 _ hM'
                  dsimp only at j1 j2 j3 j4 j5
                  subst j4
                  subst j5
                  obtain ⟨x, As, rfl⟩ := sx_rcvI hc2
                  have hgi : GoodIn Ts (Cond.code y' cc' mL' none :: Ts) := sx_goodIn hG _ (fun w hw => (List.mem_cons.mp hw).elim (fun z => z ▸ hcd') id)
                  have hAl : (As.map (sx_up ua)).length = na' := by
                    rw [List.length_map]
                    have : As.length + 1 = na' + 1 := hlen
                    omega
                  have hsk : sx_upS ua st = (As.map (sx_up ua)).reverse ++ .ref (ua x) :: sx_upS ua rest := by
                    rw [hstk]
                    simp [sx_upS, List.map_append, List.map_reverse, sx_up]
                  rcases j1 with j1 | ⟨host, j1⟩
                  · exact sx_after (va_runI (b := ua x) (As := As.map (sx_up ua)) (n := na') ⟨hx, hb, hml, hown, hts⟩ hMet (cwI na' hts hgi rfl rfl rfl (hts _ hini') (hts _ j1) (hts _ j2) j3 hnm' hroom) ⟨sx_blind hxk, sx_pre hxk hK hxw hnc hR⟩ rfl hAl hl.1 hsk hW8 hd ⟨by omega, by omega⟩) hL hgo
                  · exact sx_after (va_runIN (b := ua x) (As := As.map (sx_up ua)) (n := na') (host := host) ⟨hx, hb, hml, hown, hts⟩ hMet ⟨va_cnB na' hts hgi rfl rfl rfl (hxw _ j1) (hts _ hini') hnm' hroom, j3, hts _ j2⟩ ⟨sx_blind hxk, sx_pre hxk hK hxw hnc hR⟩ rfl hAl hl.1 hsk hW8 hd ⟨by omega, by omega⟩) hL hgo
                | _ => first | exact absurd rfl k0 | exact absurd rfl k1 | exact (sx_kd_new k0 k4).elim
              | inr x =>
                dsimp only at h3
                split at h3
                · rename_i j hj
                  obtain ⟨hp9, hf9, h10⟩ := Option.bind_eq_some_iff.mp h3
                  clear h3
                  by_cases hc9 : K0 ≤ x ∧ sx_isV i = true
                  · rw [if_pos hc9] at h10
                    cases i with
                    | invokevirtual idx =>
                      obtain ⟨rfl, hJ⟩ := hoJ
                      obtain ⟨j1, j2, j3, j5, rr, hrr, hrn⟩ := hJ _ hM'
                      dsimp only at j1 j2 j3 j5 hrn
                      subst j5
                      obtain ⟨z, As, fs, rfl, hxo, hxK⟩ := sx_rcvV hc2
                      have hrecv := va_recv (ci := b) (q0 := 0) hK (sx_one (D := D) (cl := cl) (a := ua z) (e := .inr (b, fs.map (sx_up ua))) (hR.2.2.1 z _ hxo hxK)) hrr rfl
                      rw [hrn] at hrecv
                      obtain ⟨cellB, hcB, hoB, hclB⟩ := hrecv
                      intro T hT X
                      obtain ⟨U, L, X1, hL1, ⟨tt, hwd, e1, e2⟩, stp⟩ := sx_callT X hx (C := y'.cls) (bytes := cc') (maxL := mL') (ret := rt') hown (hts _ j1) (hts _ j2) (hts _ j3) (hts _ hcd') (hts _ hini') ⟨hnm'.1, hnm'.2.1⟩ hMF (pay_in hts (sx_goodIn hG _ (fun w hw => (List.mem_cons.mp hw).elim (fun z => z ▸ hcd') id))) hroom.1 hroom.2 (by dsimp only; omega) (by dsimp only; omega) (b := ua z) (by rw [hT]; exact hcB) hoB hclB (g := F0 m pc ls (sx_upS ua st)) rfl (hl.1.trans hml.symm) (argsL := As.map (sx_up ua)) (rest := sx_upS ua rest) (fun sig hsig => by
                          have h9 := hnm'.2.2
                          rw [hsig] at h9
                          rw [List.length_map]
                          have h12 : As.length + 1 = na' + 1 := hlen
                          have h11 : sig.parameters.length = na' := Option.some.inj h9
                          omega) (by
                          show sx_upS ua st = _
                          rw [hstk]
                          simp [sx_upS, List.map_append, List.map_reverse, sx_up]) hW8 (by rw [hb]; exact hd) (fun vm₁ g' mk hWv => sx_blind hxk _ (T.setVm vm₁) g' mk (sx_pre (vals := .ref z :: As) hxk hK hxw hnc hR (T.setVm vm₁) hT hWv))
                      have hR1 : sx_R D cl tys ex zs K0 base ua s hs2 U.heap := by
                        rw [e1]
                        exact hwd.moved (by rw [← e2]; exact X1.warmed.alike.symm)
                      obtain ⟨cell, Xn, hex, hcl, hcs, hfc⟩ := hR1.2.2.1 x _ hj hc9.1
                      obtain ⟨kE, hkE, -⟩ := Vm.findClass_spec hfc
                      obtain ⟨vm', X2, st2⟩ := sx_catch X1 (g := { F0 m pc ls (sx_upS ua st) with stack := sx_upS ua rest }) rfl hcl (fun k hk => by rw [hk] at hcs; cases hcs) ⟨kE, hkE⟩ (sx_hit_of (by rw [X1.admits.platform]) hown hts hxw hnc hex hfc M.2.2.2.2.2.2.2 c.exceptionTable.toList hxt hokH hf9)
                      have hg := ih (d' + 1) M hp9 lv [.ref x] hs2 _ _ dc2 ds2 hok h10 (e := e) (R := R) (below := below) (cells := cells + dc1) (slots := slots + ds1) hx hb hml hxt hown hts hxw hnc hE hK hr hlk hin hl hR1 (fun q hq => (List.mem_append.mp hq).elim (hL q) (hL1 q)) hfr hlo (by omega) (by omega)
                      rw [Nat.add_assoc, Nat.add_assoc] at hg
                      obtain ⟨t2, a1, b1⟩ := hg (U.setVm vm') rfl X2
                      exact ⟨t2, stp _ (st2 _ a1), b1⟩
                    | _ => exact absurd (show false = true from hc9.2) (by decide)
                  · rw [if_neg hc9] at h10
                    cases h10
                · cases h3
            · rw [if_neg hc] at h
              cases h
end SXSOUND
end
section
/-! A METHOD'S NUMBERS, CHECKED BY THE KERNEL -/
def sx_cd (L : List (Nat × Instr × Nat × Nat × Nat)) (pc : Nat) : Option (Instr × Nat × Nat × Nat) := match L with
  | [] => none
  | q :: r => if q.1 = pc then some q.2 else sx_cd r pc
theorem sx_cd_mem {L : List (Nat × Instr × Nat × Nat × Nat)} {pc : Nat} {I : Instr × Nat × Nat × Nat} (h : sx_cd L pc = some I) : (pc, I) ∈ L := by
  induction L with
  | nil => cases h
  | cons q r ih =>
    unfold sx_cd at h
    by_cases hq : q.1 = pc
    · rw [if_pos hq] at h
      cases h
      subst hq
      exact List.mem_cons_self
    · rw [if_neg hq] at h
      exact List.mem_cons_of_mem _ (ih h)
def sx_all : List Cond := Cond.code x code maxLocals ret :: lw_tbl
def sx_tw : List Cond := sx_all.filter goodWord
def sx_xw : List Cond := lw_tbl.filter sx_xk
def sx_inT (w : Cond) : Bool := decide (w ∈ sx_all) && goodWord w
def sx_inX (w : Cond) : Bool := decide (w ∈ lw_tbl) && sx_xk w
theorem sx_inT_ok {w : Cond} (h : sx_inT w = true) : w ∈ sx_tw := by
  simp only [sx_inT, Bool.and_eq_true, decide_eq_true_eq] at h
  exact List.mem_filter.mpr h
theorem sx_inX_ok {w : Cond} (h : sx_inX w = true) : w ∈ sx_xw := by
  simp only [sx_inX, Bool.and_eq_true, decide_eq_true_eq] at h
  exact List.mem_filter.mpr h
theorem sx_tw_good : ∀ w ∈ sx_tw, goodWord w = true := fun _ h => (List.mem_filter.mp h).2
theorem sx_xw_kind : ∀ w ∈ sx_xw, sx_xk w = true := fun _ h => (List.mem_filter.mp h).2
section SXCHK
variable (cl : List vw_C) (ft : Nat → Nat → FieldType) (df : Nat → List Value) (tf : Nat → FieldType) (nt : Nat) (zs : List (String × String × String × Value)) (ks : Nat → Value) (mt : Nat → Option sx_M) (Kw : Nat) (ex : List String) (exn : Nat → List String) (nc : List (String × String)) (hn : Nat → String)
def sx_chkI (own : String) (isI : Bool) (i : Instr) (len a b : Nat) : Bool := match i with
  | .getfield idx => len == 3 && (match cl[a]? with
    | some q => decide (b < q.2.2) && sx_inT (.fieldLink own idx (q.2.1 b).1 (q.2.1 b).2.1 (q.2.1 b).2.2.1)
    | none => false)
  | .putfield idx => len == 3 && (match cl[a]? with
    | some q => decide (b < q.2.2) && sx_inT (.fieldLink own idx (q.2.1 b).1 (q.2.1 b).2.1 (q.2.1 b).2.2.1) && (!(q.2.1 b).2.2.2 || (isI && (q.2.1 b).1 == own))
    | none => false)
  | .new idx => len == 3 && (b != 0 || match cl[a]? with
    | some q => sx_inT (.classLink own idx q.1) && sx_inT (.instantiable q.1 q.2.2) && sx_inT (.initialized q.1)
    | none => false)
  | .newarray t => len == 2 && sx_inT (.arrayClass (newarray.typeOf t)) && tf a == newarray.typeOf t && decide (a < nt)
  | .anewarray idx => len == 3 && decide (a < nt) && (match tf a with
    | .object C => sx_inT (.classLink own idx C) && sx_inX (.arrayOver (.object C))
    | _ => false)
  | .arraylength => len == 1
  | .iaload => len == 1
  | .baload => len == 1
  | .caload => len == 1
  | .laload => len == 1
  | .aaload => len == 1
  | .iastore => len == 1
  | .bastore => len == 1
  | .castore => len == 1
  | .lastore => len == 1
  | .aastore => len == 1
  | .getstatic idx => len == 3 && (match zs[a]? with
    | some z => sx_inT (.fieldLink own idx z.1 z.2.1 z.2.2.1)
    | none => true)
  | .ldc idx => len == 2 && (match ks a with
    | .int v => sx_inT (.constant own idx v)
    | _ => false)
  | .ldc2_w idx => len == 3 && (match ks a with
    | .long v => sx_inT (.constantLong own idx v)
    | _ => false)
  | _ => true
def sx_chkJ (own : String) (i : Instr) (len a b : Nat) : Bool := match i with
  | .invokevirtual idx => len == 3 && (match mt a with
    | some M' => sx_inT (.methodLink own idx M'.1) && sx_inT (.instanceMethod M'.1) && sx_inT (.selects M'.1.cls M'.1 M'.1) && M'.2.2.2.2.2.2.2.isEmpty && (match cl[b]? with
      | some r => r.1 == M'.1.cls
      | none => false)
    | none => true)
  | .invokestatic idx => len == 3 && (match mt a with
    | some M' => sx_inT (.methodLink own idx M'.1) && sx_inT (.static M'.1)
    | none => true)
  | .invokespecial idx => len == 3 && (if b = 2 then sx_inT (.methodLink own idx Lib.objectInit) && sx_inT (.instanceMethod Lib.objectInit) && sx_inT (.code Lib.objectInit ⟨#[0xb1]⟩ 1 none) else (match mt a with
    | some M' => sx_inT (.instanceMethod M'.1) && M'.1.name == "<init>" && decide (M'.2.2.2.1 = none) && M'.2.2.2.2.2.2.2.isEmpty && (sx_inT (.methodLink own idx M'.1) || sx_inX (.methodLinkNest own idx M'.1 "GuardNet"))
    | none => true))
  | _ => true
def sx_chkT (own : String) (cc : ByteArray) (pc : Nat) (i : Instr) (a b : Nat) : Bool := match i with
  | .new idx => b != 1 || (match ex[a]?, decode cc (pc + 4) with
    | some X, .ok (.invokespecial ic, 3) => Bundle.fit X && (exn a).all Bundle.fit && decide ((exn a).length ≤ 2) && sx_inT (.classLink own idx X) && sx_inT (.instantiable X 6) && sx_inT (.initialized X) && decide (decode cc (pc + 3) = .ok (.dup, 1)) && decide (decode cc (pc + 7) = .ok (.athrow, 1)) && (Bundle.ownAtoms0 own ic X (exn a)).all (fun w => sx_inT w || sx_inX w || decide (w ∈ sx_ew))
    | _, _ => false)
  | _ => true
def sx_chkH (own : String) (hh : List (Nat × Nat × Nat × Nat × List Nat)) : Bool := hh.all fun h => h.2.2.2.1 != 0 && sx_inT (.classLink own h.2.2.2.1 (hn h.2.2.2.1)) && (List.range ex.length).all fun j => match ex[j]? with
    | some X => if j ∈ h.2.2.2.2 then sx_inX (.castable X (hn h.2.2.2.1)) else decide ((X, hn h.2.2.2.1) ∈ nc)
    | none => true
def sx_chkM (y : MethodName) (cc : ByteArray) (mL : Nat) (ret : Option FieldType) (na : Nat) (isI : Bool) (L : List (Nat × Instr × Nat × Nat × Nat)) (hh : List (Nat × Nat × Nat × Nat × List Nat)) : Bool :=
  plainName y.cls && sx_inT (sx_cw (y, cc, mL, ret, na, isI, sx_cd L, hh)) && sx_inT (.initialized y.cls) && y.cls != "java/lang/invoke/MethodHandle" && y.cls != "java/lang/invoke/VarHandle" && decide ((parseMethodDescriptor y.desc).map (fun d => d.parameters.length) = some na) && decide (mL + 19 ≤ Kw) && (!isI || y.name == "<init>") && sx_chkH ex nc hn y.cls hh &&
  L.all fun q => decide (decode cc q.1 = .ok (q.2.1, q.2.2.1)) && sx_chkI cl tf nt zs ks y.cls isI q.2.1 q.2.2.1 q.2.2.2.1 q.2.2.2.2 && sx_chkJ cl mt y.cls q.2.1 q.2.2.1 q.2.2.2.1 q.2.2.2.2 && (!(sx_kd q.2.1 q.2.2.2.2 == 4) || hh.isEmpty) && sx_chkT ex exn y.cls cc q.1 q.2.1 q.2.2.2.1 q.2.2.2.2
end SXCHK
section SXCHO
variable {cl : List vw_C} {ft : Nat → Nat → FieldType} {df : Nat → List Value} {tf : Nat → FieldType} {nt : Nat} {zs : List (String × String × String × Value)} {ks : Nat → Value} {mt : Nat → Option sx_M} {Kw : Nat} {ex : List String} {exn : Nat → List String} {nc : List (String × String)} {hn : Nat → String}
theorem sx_chkI_ok (hC : ∀ ci C T N, cl[ci]? = some (C, T, N) → sx_okC sx_tw cl ft ci C T N) (hdf : ∀ ci C T N, cl[ci]? = some (C, T, N) → (df ci).length = N ∧ (∀ j, j < N → defaultValue (ft ci j) = vp_V (df ci) j) ∧ ∀ ua, (df ci).map (sx_up ua) = df ci) {own : String} {isI : Bool} {i : Instr} {len a b : Nat} (h : sx_chkI cl tf nt zs ks own isI i len a b = true) : sx_okI sx_tw sx_xw cl ft df tf nt zs ks own isI i len a b := by
  cases i with
  | getfield idx =>
    simp only [sx_chkI, Bool.and_eq_true, beq_iff_eq] at h
    obtain ⟨h1, h⟩ := h
    split at h
    · rename_i q hq
      simp only [Bool.and_eq_true, decide_eq_true_eq] at h
      exact ⟨h1, q.1, q.2.1, q.2.2, hC _ _ _ _ hq, h.1, sx_inT_ok h.2⟩
    · cases h
  | putfield idx =>
    simp only [sx_chkI, Bool.and_eq_true, beq_iff_eq] at h
    obtain ⟨h1, h⟩ := h
    split at h
    · rename_i q hq
      simp only [Bool.and_eq_true, decide_eq_true_eq, Bool.or_eq_true, Bool.not_eq_true', beq_iff_eq] at h
      refine ⟨h1, q.1, q.2.1, q.2.2, hC _ _ _ _ hq, h.1.1, sx_inT_ok h.1.2, ?_⟩
      cases hz : (q.2.1 b).2.2.2 with
      | false => exact Or.inl rfl
      | true =>
        rcases h.2 with h3 | h3
        · rw [hz] at h3
          cases h3
        · exact Or.inr ⟨rfl, h3⟩
    · cases h
  | new idx =>
    simp only [sx_chkI, Bool.and_eq_true, beq_iff_eq, Bool.or_eq_true, bne_iff_ne] at h
    obtain ⟨h1, h⟩ := h
    refine ⟨h1, fun hb => ?_⟩
    rcases h with h | h
    · exact absurd hb h
    · split at h
      · rename_i q hq
        simp only [Bool.and_eq_true] at h
        obtain ⟨d1, d2, d3⟩ := hdf _ _ _ _ hq
        exact ⟨q.1, q.2.1, q.2.2, hC _ _ _ _ hq, sx_inT_ok h.1.1, sx_inT_ok h.1.2, sx_inT_ok h.2, d1, d2, d3⟩
      · cases h
  | newarray t =>
    simp only [sx_chkI, Bool.and_eq_true, beq_iff_eq, decide_eq_true_eq] at h
    exact ⟨h.1.1.1, sx_inT_ok h.1.1.2, h.1.2, h.2⟩
  | anewarray idx =>
    simp only [sx_chkI, Bool.and_eq_true, beq_iff_eq, decide_eq_true_eq] at h
    obtain ⟨⟨h1, h2⟩, h⟩ := h
    split at h
    · rename_i C hq
      simp only [Bool.and_eq_true] at h
      exact ⟨h1, C, hq, h2, sx_inT_ok h.1, sx_inX_ok h.2⟩
    · cases h
  | getstatic idx =>
    simp only [sx_chkI, Bool.and_eq_true, beq_iff_eq] at h
    refine ⟨h.1, fun z hz => ?_⟩
    have h2 := h.2
    rw [hz] at h2
    exact sx_inT_ok h2
  | ldc idx =>
    simp only [sx_chkI, Bool.and_eq_true, beq_iff_eq] at h
    obtain ⟨h1, h⟩ := h
    split at h
    · rename_i v hv
      exact ⟨h1, v, hv, sx_inT_ok h⟩
    · cases h
  | ldc2_w idx =>
    simp only [sx_chkI, Bool.and_eq_true, beq_iff_eq] at h
    obtain ⟨h1, h⟩ := h
    split at h
    · rename_i v hv
      exact ⟨h1, v, hv, sx_inT_ok h⟩
    · cases h
  | arraylength => exact eq_of_beq h
  | iaload => exact eq_of_beq h
  | baload => exact eq_of_beq h
  | caload => exact eq_of_beq h
  | laload => exact eq_of_beq h
  | aaload => exact eq_of_beq h
  | iastore => exact eq_of_beq h
  | bastore => exact eq_of_beq h
  | castore => exact eq_of_beq h
  | lastore => exact eq_of_beq h
  | aastore => exact eq_of_beq h
  | _ => trivial
theorem sx_chkJ_ok {own : String} {i : Instr} {len a b : Nat} (h : sx_chkJ cl mt own i len a b = true) : sx_okJ sx_tw sx_xw cl mt own i len a b := by
  cases i with
  | invokevirtual idx =>
    simp only [sx_chkJ, Bool.and_eq_true, beq_iff_eq] at h
    refine ⟨h.1, fun M' hM => ?_⟩
    have h2 := h.2
    rw [hM] at h2
    simp only [Bool.and_eq_true] at h2
    obtain ⟨⟨⟨⟨g1, g2⟩, g3⟩, g5⟩, g4⟩ := h2
    split at g4
    · rename_i r hr
      exact ⟨sx_inT_ok g1, sx_inT_ok g2, sx_inT_ok g3, List.isEmpty_iff.mp g5, r, hr, eq_of_beq g4⟩
    · cases g4
  | invokestatic idx =>
    simp only [sx_chkJ, Bool.and_eq_true, beq_iff_eq] at h
    refine ⟨h.1, fun M' hM => ?_⟩
    have h2 := h.2
    rw [hM] at h2
    simp only [Bool.and_eq_true] at h2
    exact ⟨sx_inT_ok h2.1, sx_inT_ok h2.2⟩
  | invokespecial idx =>
    simp only [sx_chkJ, Bool.and_eq_true, beq_iff_eq] at h
    refine ⟨h.1, fun hb => ?_, fun hb M' hM => ?_⟩
    · have h2 := h.2
      rw [if_pos hb] at h2
      simp only [Bool.and_eq_true] at h2
      exact ⟨sx_inT_ok h2.1.1, sx_inT_ok h2.1.2, sx_inT_ok h2.2⟩
    · have h2 := h.2
      rw [if_neg hb, hM] at h2
      simp only [Bool.and_eq_true, beq_iff_eq, decide_eq_true_eq, Bool.or_eq_true] at h2
      exact ⟨sx_inT_ok h2.1.1.1.1, h2.1.1.1.2, h2.1.1.2, List.isEmpty_iff.mp h2.1.2, h2.2.imp sx_inT_ok (fun z => ⟨_, sx_inX_ok z⟩)⟩
  | _ => trivial
theorem sx_chkT_ok {own : String} {cc : ByteArray} {pc : Nat} {i : Instr} {a b : Nat} (h : sx_chkT ex exn own cc pc i a b = true) : sx_okT sx_tw sx_xw ex own cc pc i a b := by
  cases i with
  | new idx =>
    intro hb
    simp only [sx_chkT, Bool.or_eq_true, bne_iff_ne] at h
    rcases h with h | h
    · exact absurd hb h
    · split at h
      · rename_i X ic hX hic
        simp only [Bool.and_eq_true, decide_eq_true_eq, List.all_eq_true, Bool.or_eq_true] at h
        obtain ⟨⟨⟨⟨⟨⟨⟨⟨g1, g2⟩, g3⟩, g4⟩, g5⟩, g6⟩, g7⟩, g8⟩, g9⟩ := h
        exact ⟨X, exn a, ic, hX, g1, g2, g3, sx_inT_ok g4, sx_inT_ok g5, sx_inT_ok g6, g7, hic, g8, fun w hw => by
          rcases g9 w hw with (z | z) | z
          · exact Or.inl (sx_inT_ok z)
          · exact Or.inr (Or.inl (sx_inX_ok z))
          · exact Or.inr (Or.inr z)⟩
      · cases h
  | _ => trivial
theorem sx_chkH_ok {own : String} {hh : List (Nat × Nat × Nat × Nat × List Nat)} (h : sx_chkH ex nc hn own hh = true) : sx_okH sx_tw sx_xw ex nc own hh := by
  intro q hq
  simp only [sx_chkH, List.all_eq_true, Bool.and_eq_true, bne_iff_ne] at h
  obtain ⟨⟨h1, h2⟩, h3⟩ := h q hq
  refine ⟨h1, hn q.2.2.2.1, sx_inT_ok h2, fun j X hj => ?_⟩
  have hjl : j < ex.length := (List.getElem?_eq_some_iff.mp hj).1
  have h4 := h3 j (List.mem_range.mpr hjl)
  rw [hj] at h4
  dsimp only at h4
  by_cases hm : j ∈ q.2.2.2.2
  · rw [if_pos hm] at h4 ⊢
    exact sx_inX_ok h4
  · rw [if_neg hm] at h4 ⊢
    exact of_decide_eq_true h4
theorem sx_chkM_ok (hC : ∀ ci C T N, cl[ci]? = some (C, T, N) → sx_okC sx_tw cl ft ci C T N) (hdf : ∀ ci C T N, cl[ci]? = some (C, T, N) → (df ci).length = N ∧ (∀ j, j < N → defaultValue (ft ci j) = vp_V (df ci) j) ∧ ∀ ua, (df ci).map (sx_up ua) = df ci) {y : MethodName} {cc : ByteArray} {mL : Nat} {ret : Option FieldType} {na : Nat} {isI : Bool} {L : List (Nat × Instr × Nat × Nat × Nat)} {hh : List (Nat × Nat × Nat × Nat × List Nat)} (h : sx_chkM cl tf nt zs ks mt Kw ex exn nc hn y cc mL ret na isI L hh = true) : sx_okM sx_tw sx_xw cl ft df tf nt zs ks mt Kw ex nc (y, cc, mL, ret, na, isI, sx_cd L, hh) := by
  simp only [sx_chkM, Bool.and_eq_true, decide_eq_true_eq, bne_iff_ne, Bool.or_eq_true, Bool.not_eq_true', beq_iff_eq, List.all_eq_true] at h
  obtain ⟨⟨⟨⟨⟨⟨⟨⟨⟨h1, h2⟩, h3⟩, h4⟩, h5⟩, h6⟩, h7⟩, h8⟩, h10⟩, h9⟩ := h
  refine ⟨h1, sx_inT_ok h2, sx_inT_ok h3, ⟨h4, h5, h6⟩, h7, fun hi => ?_, sx_chkH_ok h10, fun pc i len a b hc => ?_⟩
  · rcases h8 with h8 | h8
    · dsimp only at hi
      rw [hi] at h8
      cases h8
    · exact h8
  · obtain ⟨⟨⟨⟨g1, g2⟩, g3⟩, g4⟩, g5⟩ := h9 _ (sx_cd_mem hc)
    refine ⟨g1, sx_chkI_ok hC hdf g2, sx_chkJ_ok g3, fun hk => ?_, sx_chkT_ok g5⟩
    rcases g4 with g4 | g4
    · dsimp only at g4
      rw [hk] at g4
      cases g4
    · exact List.isEmpty_iff.mp g4
end SXCHO
end
