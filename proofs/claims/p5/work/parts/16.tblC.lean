/-- GuardNet.<init>()V -/
theorem sK_0 : sx_chkM 80 s_ex s_nc s_hn ⟨"GuardNet", "<init>", "()V"⟩ prog_1_method_1_code 1 none 0 true sL_0 [] [120, 81] = true := by decide +kernel
theorem sC_0 : sx_chkL s_cl s_tf s_nt s_zs s_ks s_mt s_ex s_exn ⟨"GuardNet", "<init>", "()V"⟩ prog_1_method_1_code true [] sL_0 = true := by decide +kernel
/-- GuardNet$Reader.<init>()V -/
theorem sK_1 : sx_chkM 80 s_ex s_nc s_hn ⟨"GuardNet$Reader", "<init>", "()V"⟩ prog_8_method_1_code 1 none 0 true sL_1 [] [128, 82] = true := by decide +kernel
theorem sC_1 : sx_chkL s_cl s_tf s_nt s_zs s_ks s_mt s_ex s_exn ⟨"GuardNet$Reader", "<init>", "()V"⟩ prog_8_method_1_code true [] sL_1 = true := by decide +kernel
/-- GuardNet$Network.<init>()V -/
theorem sK_2 : sx_chkM 80 s_ex s_nc s_hn ⟨"GuardNet$Network", "<init>", "()V"⟩ prog_5_method_1_code 2 none 0 true sL_2 [] [171, 86] = true := by decide +kernel
theorem sC_2 : sx_chkL s_cl s_tf s_nt s_zs s_ks s_mt s_ex s_exn ⟨"GuardNet$Network", "<init>", "()V"⟩ prog_5_method_1_code true [] sL_2 = true := by decide +kernel
/-- GuardNet$Use.<init>()V -/
theorem sK_3 : sx_chkM 80 s_ex s_nc s_hn ⟨"GuardNet$Use", "<init>", "()V"⟩ prog_12_method_1_code 1 none 0 true sL_3 [] [177, 87] = true := by decide +kernel
theorem sC_3 : sx_chkL s_cl s_tf s_nt s_zs s_ks s_mt s_ex s_exn ⟨"GuardNet$Use", "<init>", "()V"⟩ prog_12_method_1_code true [] sL_3 = true := by decide +kernel
/-- GuardNet$Store.<init>()V -/
theorem sK_4 : sx_chkM 80 s_ex s_nc s_hn ⟨"GuardNet$Store", "<init>", "()V"⟩ prog_10_method_1_code 1 none 0 true sL_4 [] [183, 88] = true := by decide +kernel
theorem sC_4 : sx_chkL s_cl s_tf s_nt s_zs s_ks s_mt s_ex s_exn ⟨"GuardNet$Store", "<init>", "()V"⟩ prog_10_method_1_code true [] sL_4 = true := by decide +kernel
/-- GuardNet$Pairs.<init>()V -/
theorem sK_5 : sx_chkM 80 s_ex s_nc s_hn ⟨"GuardNet$Pairs", "<init>", "()V"⟩ prog_7_method_1_code 1 none 0 true sL_5 [] [201, 89] = true := by decide +kernel
theorem sC_5 : sx_chkL s_cl s_tf s_nt s_zs s_ks s_mt s_ex s_exn ⟨"GuardNet$Pairs", "<init>", "()V"⟩ prog_7_method_1_code true [] sL_5 = true := by decide +kernel
/-- GuardNet$Row.<init>()V -/
theorem sK_6 : sx_chkM 80 s_ex s_nc s_hn ⟨"GuardNet$Row", "<init>", "()V"⟩ prog_9_method_1_code 1 none 0 true sL_6 [] [248, 90] = true := by decide +kernel
theorem sC_6 : sx_chkL s_cl s_tf s_nt s_zs s_ks s_mt s_ex s_exn ⟨"GuardNet$Row", "<init>", "()V"⟩ prog_9_method_1_code true [] sL_6 = true := by decide +kernel
/-- GuardNet.count(I)I -/
theorem sK_7 : sx_chkM 80 s_ex s_nc s_hn ⟨"GuardNet", "count", "(I)I"⟩ prog_1_method_11_code 2 (some .int) 1 false sL_7 [] [336, 81] = true := by decide +kernel
theorem sC_7 : sx_chkL s_cl s_tf s_nt s_zs s_ks s_mt s_ex s_exn ⟨"GuardNet", "count", "(I)I"⟩ prog_1_method_11_code false [] sL_7 = true := by decide +kernel
/-- GuardNet$Reader.length()I -/
theorem sK_8 : sx_chkM 80 s_ex s_nc s_hn ⟨"GuardNet$Reader", "length", "()I"⟩ prog_8_method_2_code 1 (some .int) 0 false sL_8 [] [340, 82] = true := by decide +kernel
theorem sC_8 : sx_chkL s_cl s_tf s_nt s_zs s_ks s_mt s_ex s_exn ⟨"GuardNet$Reader", "length", "()I"⟩ prog_8_method_2_code false [] sL_8 = true := by decide +kernel
/-- GuardNet$Network.steps()I -/
theorem sK_9 : sx_chkM 80 s_ex s_nc s_hn ⟨"GuardNet$Network", "steps", "()I"⟩ prog_5_method_3_code 1 (some .int) 0 false sL_9 [] [348, 86] = true := by decide +kernel
theorem sC_9 : sx_chkL s_cl s_tf s_nt s_zs s_ks s_mt s_ex s_exn ⟨"GuardNet$Network", "steps", "()I"⟩ prog_5_method_3_code false [] sL_9 = true := by decide +kernel
/-- GuardNet$Network.goalsInRows()I -/
theorem sK_10 : sx_chkM 80 s_ex s_nc s_hn ⟨"GuardNet$Network", "goalsInRows", "()I"⟩ prog_5_method_8_code 3 (some .int) 0 false sL_10 [] [352, 86] = true := by decide +kernel
theorem sC_10 : sx_chkL s_cl s_tf s_nt s_zs s_ks s_mt s_ex s_exn ⟨"GuardNet$Network", "goalsInRows", "()I"⟩ prog_5_method_8_code false [] sL_10 = true := by decide +kernel
/-- GuardNet$Row.size()I -/
theorem sK_11 : sx_chkM 80 s_ex s_nc s_hn ⟨"GuardNet$Row", "size", "()I"⟩ prog_9_method_2_code 1 (some .int) 0 false sL_11 [] [356, 90] = true := by decide +kernel
theorem sC_11 : sx_chkL s_cl s_tf s_nt s_zs s_ks s_mt s_ex s_exn ⟨"GuardNet$Row", "size", "()I"⟩ prog_9_method_2_code false [] sL_11 = true := by decide +kernel
/-- GuardNet$Network.goalsAsleep()I -/
theorem sK_12 : sx_chkM 80 s_ex s_nc s_hn ⟨"GuardNet$Network", "goalsAsleep", "()I"⟩ prog_5_method_6_code 1 (some .int) 0 false sL_12 [] [360, 86] = true := by decide +kernel
theorem sC_12 : sx_chkL s_cl s_tf s_nt s_zs s_ks s_mt s_ex s_exn ⟨"GuardNet$Network", "goalsAsleep", "()I"⟩ prog_5_method_6_code false [] sL_12 = true := by decide +kernel
/-- GuardNet$Network.variables()I -/
theorem sK_13 : sx_chkM 80 s_ex s_nc s_hn ⟨"GuardNet$Network", "variables", "()I"⟩ prog_5_method_5_code 1 (some .int) 0 false sL_13 [] [364, 86] = true := by decide +kernel
theorem sC_13 : sx_chkL s_cl s_tf s_nt s_zs s_ks s_mt s_ex s_exn ⟨"GuardNet$Network", "variables", "()I"⟩ prog_5_method_5_code false [] sL_13 = true := by decide +kernel
/-- GuardNet$Store.variables()I -/
theorem sK_14 : sx_chkM 80 s_ex s_nc s_hn ⟨"GuardNet$Store", "variables", "()I"⟩ prog_10_method_4_code 1 (some .int) 0 false sL_14 [] [368, 88] = true := by decide +kernel
theorem sC_14 : sx_chkL s_cl s_tf s_nt s_zs s_ks s_mt s_ex s_exn ⟨"GuardNet$Store", "variables", "()I"⟩ prog_10_method_4_code false [] sL_14 = true := by decide +kernel
/-- GuardNet$Network.sleeps()I -/
theorem sK_15 : sx_chkM 80 s_ex s_nc s_hn ⟨"GuardNet$Network", "sleeps", "()I"⟩ prog_5_method_4_code 1 (some .int) 0 false sL_15 [] [372, 86] = true := by decide +kernel
theorem sC_15 : sx_chkL s_cl s_tf s_nt s_zs s_ks s_mt s_ex s_exn ⟨"GuardNet$Network", "sleeps", "()I"⟩ prog_5_method_4_code false [] sL_15 = true := by decide +kernel
/-- GuardNet$Network.state()I -/
theorem sK_16 : sx_chkM 80 s_ex s_nc s_hn ⟨"GuardNet$Network", "state", "()I"⟩ prog_5_method_2_code 1 (some .int) 0 false sL_16 [] [376, 86] = true := by decide +kernel
theorem sC_16 : sx_chkL s_cl s_tf s_nt s_zs s_ks s_mt s_ex s_exn ⟨"GuardNet$Network", "state", "()I"⟩ prog_5_method_2_code false [] sL_16 = true := by decide +kernel
/-- GuardNet$Network.goalsAt(I)I -/
theorem sK_17 : sx_chkM 80 s_ex s_nc s_hn ⟨"GuardNet$Network", "goalsAt", "(I)I"⟩ prog_5_method_7_code 2 (some .int) 1 false sL_17 [] [380, 86] = true := by decide +kernel
theorem sC_17 : sx_chkL s_cl s_tf s_nt s_zs s_ks s_mt s_ex s_exn ⟨"GuardNet$Network", "goalsAt", "(I)I"⟩ prog_5_method_7_code false [] sL_17 = true := by decide +kernel
/-- GuardNetLaw.type(LGuardNet;J[J)I -/
theorem sK_18 : sx_chkM 80 s_ex s_nc s_hn ⟨"GuardNetLaw", "type", "(LGuardNet;J[J)I"⟩ method_3_code 5 (some .int) 3 false sL_18 [(0, 9, 12, 13, [0]), (0, 9, 16, 15, [1])] [383, 80] = true := by decide +kernel
theorem sC_18 : sx_chkL s_cl s_tf s_nt s_zs s_ks s_mt s_ex s_exn ⟨"GuardNetLaw", "type", "(LGuardNet;J[J)I"⟩ method_3_code false [(0, 9, 12, 13, [0]), (0, 9, 16, 15, [1])] sL_18 = true := by decide +kernel
/-- GuardNet.type(J)I -/
theorem sK_19 : sx_chkM 80 s_ex s_nc s_hn ⟨"GuardNet", "type", "(J)I"⟩ prog_1_method_2_code 6 (some .int) 1 false sL_19 [] [389, 81] = true := by decide +kernel
theorem sC_19 : sx_chkL s_cl s_tf s_nt s_zs s_ks s_mt s_ex s_exn ⟨"GuardNet", "type", "(J)I"⟩ prog_1_method_2_code false [] sL_19 = true := by decide +kernel
/-- GuardNet.byteAt(JI)I -/
theorem sK_20 : sx_chkM 80 s_ex s_nc s_hn ⟨"GuardNet", "byteAt", "(JI)I"⟩ prog_1_method_3_code 3 (some .int) 2 false sL_20 [] [392, 81] = true := by decide +kernel
theorem sC_20 : sx_chkL s_cl s_tf s_nt s_zs s_ks s_mt s_ex s_exn ⟨"GuardNet", "byteAt", "(JI)I"⟩ prog_1_method_3_code false [] sL_20 = true := by decide +kernel
/-- GuardNet$Reader.append(I)V -/
theorem sK_21 : sx_chkM 80 s_ex s_nc s_hn ⟨"GuardNet$Reader", "append", "(I)V"⟩ prog_8_method_3_code 2 none 1 false sL_21 [] [476, 82] = true := by decide +kernel
theorem sC_21 : sx_chkL s_cl s_tf s_nt s_zs s_ks s_mt s_ex s_exn ⟨"GuardNet$Reader", "append", "(I)V"⟩ prog_8_method_3_code false [] sL_21 = true := by decide +kernel
/-- GuardNetLaw.add(LGuardNet;[J)I -/
theorem sK_22 : sx_chkM 80 s_ex s_nc s_hn ⟨"GuardNetLaw", "add", "(LGuardNet;[J)I"⟩ method_4_code 3 (some .int) 2 false sL_22 [(0, 8, 11, 13, [0]), (0, 8, 14, 15, [1])] [479, 80] = true := by decide +kernel
theorem sC_22 : sx_chkL s_cl s_tf s_nt s_zs s_ks s_mt s_ex s_exn ⟨"GuardNetLaw", "add", "(LGuardNet;[J)I"⟩ method_4_code false [(0, 8, 11, 13, [0]), (0, 8, 14, 15, [1])] sL_22 = true := by decide +kernel
/-- GuardNet.add()I -/
theorem sK_23 : sx_chkM 80 s_ex s_nc s_hn ⟨"GuardNet", "add", "()I"⟩ prog_1_method_4_code 2 (some .int) 0 false sL_23 [] [483, 81] = true := by decide +kernel
theorem sC_23 : sx_chkL s_cl s_tf s_nt s_zs s_ks s_mt s_ex s_exn ⟨"GuardNet", "add", "()I"⟩ prog_1_method_4_code false [] sL_23 = true := by decide +kernel
/-- GuardNet$Reader.empty()V -/
theorem sK_24 : sx_chkM 80 s_ex s_nc s_hn ⟨"GuardNet$Reader", "empty", "()V"⟩ prog_8_method_4_code 1 none 0 false sL_24 [] [487, 82] = true := by decide +kernel
theorem sC_24 : sx_chkL s_cl s_tf s_nt s_zs s_ks s_mt s_ex s_exn ⟨"GuardNet$Reader", "empty", "()V"⟩ prog_8_method_4_code false [] sL_24 = true := by decide +kernel
/-- GuardNet$Reader.readClause()LGuardNet$Clause; -/
theorem sK_25 : sx_chkM 80 s_ex s_nc s_hn ⟨"GuardNet$Reader", "readClause", "()LGuardNet$Clause;"⟩ prog_8_method_6_code 3 (some (.object "GuardNet$Clause")) 0 false sL_25 [] [491, 82] = true := by decide +kernel
theorem sC_25 : sx_chkL s_cl s_tf s_nt s_zs s_ks s_mt s_ex s_exn ⟨"GuardNet$Reader", "readClause", "()LGuardNet$Clause;"⟩ prog_8_method_6_code false [] sL_25 = true := by decide +kernel
/-- GuardNet$Reader.next()I -/
theorem sK_26 : sx_chkM 80 s_ex s_nc s_hn ⟨"GuardNet$Reader", "next", "()I"⟩ prog_8_method_16_code 1 (some .int) 0 false sL_26 [] [495, 82] = true := by decide +kernel
theorem sC_26 : sx_chkL s_cl s_tf s_nt s_zs s_ks s_mt s_ex s_exn ⟨"GuardNet$Reader", "next", "()I"⟩ prog_8_method_16_code false [] sL_26 = true := by decide +kernel
/-- GuardNet$Reader.isSmall(I)Z -/
theorem sK_27 : sx_chkM 80 s_ex s_nc s_hn ⟨"GuardNet$Reader", "isSmall", "(I)Z"⟩ prog_8_method_18_code 1 (some .boolean) 1 false sL_27 [] [498, 82] = true := by decide +kernel
theorem sC_27 : sx_chkL s_cl s_tf s_nt s_zs s_ks s_mt s_ex s_exn ⟨"GuardNet$Reader", "isSmall", "(I)Z"⟩ prog_8_method_18_code false [] sL_27 = true := by decide +kernel
/-- GuardNet$Reader.readTerm(I)LGuardNet$Term; -/
theorem sK_28 : sx_chkM 80 s_ex s_nc s_hn ⟨"GuardNet$Reader", "readTerm", "(I)LGuardNet$Term;"⟩ prog_8_method_13_code 4 (some (.object "GuardNet$Term")) 1 false sL_28 [] [502, 82] = true := by decide +kernel
theorem sC_28 : sx_chkL s_cl s_tf s_nt s_zs s_ks s_mt s_ex s_exn ⟨"GuardNet$Reader", "readTerm", "(I)LGuardNet$Term;"⟩ prog_8_method_13_code false [] sL_28 = true := by decide +kernel
/-- GuardNet$Term.<init>(II)V -/
theorem sK_29 : sx_chkM 80 s_ex s_nc s_hn ⟨"GuardNet$Term", "<init>", "(II)V"⟩ prog_11_method_1_code 3 none 2 true sL_29 [] [507, 101] = true := by decide +kernel
theorem sC_29 : sx_chkL s_cl s_tf s_nt s_zs s_ks s_mt s_ex s_exn ⟨"GuardNet$Term", "<init>", "(II)V"⟩ prog_11_method_1_code true [] sL_29 = true := by decide +kernel
/-- GuardNet$Reader.isDigit(I)Z -/
theorem sK_30 : sx_chkM 80 s_ex s_nc s_hn ⟨"GuardNet$Reader", "isDigit", "(I)Z"⟩ prog_8_method_19_code 1 (some .boolean) 1 false sL_30 [] [535, 82] = true := by decide +kernel
theorem sC_30 : sx_chkL s_cl s_tf s_nt s_zs s_ks s_mt s_ex s_exn ⟨"GuardNet$Reader", "isDigit", "(I)Z"⟩ prog_8_method_19_code false [] sL_30 = true := by decide +kernel
/-- GuardNet$Reader.readNumber()LGuardNet$Term; -/
theorem sK_31 : sx_chkM 80 s_ex s_nc s_hn ⟨"GuardNet$Reader", "readNumber", "()LGuardNet$Term;"⟩ prog_8_method_14_code 2 (some (.object "GuardNet$Term")) 0 false sL_31 [] [539, 82] = true := by decide +kernel
theorem sC_31 : sx_chkL s_cl s_tf s_nt s_zs s_ks s_mt s_ex s_exn ⟨"GuardNet$Reader", "readNumber", "()LGuardNet$Term;"⟩ prog_8_method_14_code false [] sL_31 = true := by decide +kernel
/-- GuardNet$Reader.pass(I)Z -/
theorem sK_32 : sx_chkM 80 s_ex s_nc s_hn ⟨"GuardNet$Reader", "pass", "(I)Z"⟩ prog_8_method_17_code 2 (some .boolean) 1 false sL_32 [] [543, 82] = true := by decide +kernel
theorem sC_32 : sx_chkL s_cl s_tf s_nt s_zs s_ks s_mt s_ex s_exn ⟨"GuardNet$Reader", "pass", "(I)Z"⟩ prog_8_method_17_code false [] sL_32 = true := by decide +kernel
/-- GuardNet$Reader.readParts(LGuardNet$Term;I)Z -/
theorem sK_33 : sx_chkM 80 s_ex s_nc s_hn ⟨"GuardNet$Reader", "readParts", "(LGuardNet$Term;I)Z"⟩ prog_8_method_15_code 5 (some .boolean) 2 false sL_33 [] [547, 82] = true := by decide +kernel
theorem sC_33 : sx_chkL s_cl s_tf s_nt s_zs s_ks s_mt s_ex s_exn ⟨"GuardNet$Reader", "readParts", "(LGuardNet$Term;I)Z"⟩ prog_8_method_15_code false [] sL_33 = true := by decide +kernel
/-- GuardNet$Term.hang(LGuardNet$Term;)V -/
theorem sK_34 : sx_chkM 80 s_ex s_nc s_hn ⟨"GuardNet$Term", "hang", "(LGuardNet$Term;)V"⟩ prog_11_method_2_code 2 none 1 false sL_34 [] [551, 101] = true := by decide +kernel
theorem sC_34 : sx_chkL s_cl s_tf s_nt s_zs s_ks s_mt s_ex s_exn ⟨"GuardNet$Term", "hang", "(LGuardNet$Term;)V"⟩ prog_11_method_2_code false [] sL_34 = true := by decide +kernel
/-- GuardNet$Clause.<init>(LGuardNet$Term;)V -/
theorem sK_35 : sx_chkM 80 s_ex s_nc s_hn ⟨"GuardNet$Clause", "<init>", "(LGuardNet$Term;)V"⟩ prog_2_method_1_code 2 none 1 true sL_35 [] [556, 102] = true := by decide +kernel
theorem sC_35 : sx_chkL s_cl s_tf s_nt s_zs s_ks s_mt s_ex s_exn ⟨"GuardNet$Clause", "<init>", "(LGuardNet$Term;)V"⟩ prog_2_method_1_code true [] sL_35 = true := by decide +kernel
/-- GuardNet$Reader.readItems(Ljava/util/ArrayList;Z)Z -/
theorem sK_36 : sx_chkM 80 s_ex s_nc s_hn ⟨"GuardNet$Reader", "readItems", "(Ljava/util/ArrayList;Z)Z"⟩ prog_8_method_8_code 5 (some .boolean) 2 false sL_36 [] [578, 82] = true := by decide +kernel
theorem sC_36 : sx_chkL s_cl s_tf s_nt s_zs s_ks s_mt s_ex s_exn ⟨"GuardNet$Reader", "readItems", "(Ljava/util/ArrayList;Z)Z"⟩ prog_8_method_8_code false [] sL_36 = true := by decide +kernel
/-- GuardNet$Reader.readGuard()LGuardNet$Item; -/
theorem sK_37 : sx_chkM 80 s_ex s_nc s_hn ⟨"GuardNet$Reader", "readGuard", "()LGuardNet$Item;"⟩ prog_8_method_9_code 4 (some (.object "GuardNet$Item")) 0 false sL_37 [] [582, 82] = true := by decide +kernel
theorem sC_37 : sx_chkL s_cl s_tf s_nt s_zs s_ks s_mt s_ex s_exn ⟨"GuardNet$Reader", "readGuard", "()LGuardNet$Item;"⟩ prog_8_method_9_code false [] sL_37 = true := by decide +kernel
/-- GuardNet$Item.<init>(IILGuardNet$Term;LGuardNet$Term;LGuardNet$Term;)V -/
theorem sK_38 : sx_chkM 80 s_ex s_nc s_hn ⟨"GuardNet$Item", "<init>", "(IILGuardNet$Term;LGuardNet$Term;LGuardNet$Term;)V"⟩ prog_4_method_1_code 6 none 5 true sL_38 [] [587, 103] = true := by decide +kernel
theorem sC_38 : sx_chkL s_cl s_tf s_nt s_zs s_ks s_mt s_ex s_exn ⟨"GuardNet$Item", "<init>", "(IILGuardNet$Term;LGuardNet$Term;LGuardNet$Term;)V"⟩ prog_4_method_1_code true [] sL_38 = true := by decide +kernel
/-- GuardNet$Reader.readGoal()LGuardNet$Item; -/
theorem sK_39 : sx_chkM 80 s_ex s_nc s_hn ⟨"GuardNet$Reader", "readGoal", "()LGuardNet$Item;"⟩ prog_8_method_10_code 3 (some (.object "GuardNet$Item")) 0 false sL_39 [] [616, 82] = true := by decide +kernel
theorem sC_39 : sx_chkL s_cl s_tf s_nt s_zs s_ks s_mt s_ex s_exn ⟨"GuardNet$Reader", "readGoal", "()LGuardNet$Item;"⟩ prog_8_method_10_code false [] sL_39 = true := by decide +kernel
/-- GuardNet$Reader.readReckoning(LGuardNet$Term;)LGuardNet$Item; -/
theorem sK_40 : sx_chkM 80 s_ex s_nc s_hn ⟨"GuardNet$Reader", "readReckoning", "(LGuardNet$Term;)LGuardNet$Item;"⟩ prog_8_method_11_code 5 (some (.object "GuardNet$Item")) 1 false sL_40 [] [620, 82] = true := by decide +kernel
theorem sC_40 : sx_chkL s_cl s_tf s_nt s_zs s_ks s_mt s_ex s_exn ⟨"GuardNet$Reader", "readReckoning", "(LGuardNet$Term;)LGuardNet$Item;"⟩ prog_8_method_11_code false [] sL_40 = true := by decide +kernel
/-- GuardNet$Reader.readLevel(LGuardNet$Term;)LGuardNet$Item; -/
theorem sK_41 : sx_chkM 80 s_ex s_nc s_hn ⟨"GuardNet$Reader", "readLevel", "(LGuardNet$Term;)LGuardNet$Item;"⟩ prog_8_method_12_code 3 (some (.object "GuardNet$Item")) 1 false sL_41 [] [624, 82] = true := by decide +kernel
theorem sC_41 : sx_chkL s_cl s_tf s_nt s_zs s_ks s_mt s_ex s_exn ⟨"GuardNet$Reader", "readLevel", "(LGuardNet$Term;)LGuardNet$Item;"⟩ prog_8_method_12_code false [] sL_41 = true := by decide +kernel
/-- GuardNet$Reader.place()I -/
theorem sK_42 : sx_chkM 80 s_ex s_nc s_hn ⟨"GuardNet$Reader", "place", "()I"⟩ prog_8_method_5_code 1 (some .int) 0 false sL_42 [] [695, 82] = true := by decide +kernel
theorem sC_42 : sx_chkL s_cl s_tf s_nt s_zs s_ks s_mt s_ex s_exn ⟨"GuardNet$Reader", "place", "()I"⟩ prog_8_method_5_code false [] sL_42 = true := by decide +kernel
/-- GuardNetLaw.drop(LGuardNet;I)I -/
theorem sK_43 : sx_chkM 80 s_ex s_nc s_hn ⟨"GuardNetLaw", "drop", "(LGuardNet;I)I"⟩ method_5_code 3 (some .int) 2 false sL_43 [(0, 5, 8, 13, [0])] [699, 80] = true := by decide +kernel
theorem sC_43 : sx_chkL s_cl s_tf s_nt s_zs s_ks s_mt s_ex s_exn ⟨"GuardNetLaw", "drop", "(LGuardNet;I)I"⟩ method_5_code false [(0, 5, 8, 13, [0])] sL_43 = true := by decide +kernel
/-- GuardNet.drop(I)V -/
theorem sK_44 : sx_chkM 80 s_ex s_nc s_hn ⟨"GuardNet", "drop", "(I)V"⟩ prog_1_method_5_code 2 none 1 false sL_44 [] [703, 81] = true := by decide +kernel
theorem sC_44 : sx_chkL s_cl s_tf s_nt s_zs s_ks s_mt s_ex s_exn ⟨"GuardNet", "drop", "(I)V"⟩ prog_1_method_5_code false [] sL_44 = true := by decide +kernel
/-- GuardNetLaw.ask(LGuardNet;[J)I -/
theorem sK_45 : sx_chkM 80 s_ex s_nc s_hn ⟨"GuardNetLaw", "ask", "(LGuardNet;[J)I"⟩ method_6_code 3 (some .int) 2 false sL_45 [(0, 8, 11, 13, [0])] [721, 80] = true := by decide +kernel
theorem sC_45 : sx_chkL s_cl s_tf s_nt s_zs s_ks s_mt s_ex s_exn ⟨"GuardNetLaw", "ask", "(LGuardNet;[J)I"⟩ method_6_code false [(0, 8, 11, 13, [0])] sL_45 = true := by decide +kernel
/-- GuardNet.ask()I -/
theorem sK_46 : sx_chkM 80 s_ex s_nc s_hn ⟨"GuardNet", "ask", "()I"⟩ prog_1_method_6_code 2 (some .int) 0 false sL_46 [] [725, 81] = true := by decide +kernel
theorem sC_46 : sx_chkL s_cl s_tf s_nt s_zs s_ks s_mt s_ex s_exn ⟨"GuardNet", "ask", "()I"⟩ prog_1_method_6_code false [] sL_46 = true := by decide +kernel
/-- GuardNet$Reader.readQuestion()Ljava/util/ArrayList; -/
theorem sK_47 : sx_chkM 80 s_ex s_nc s_hn ⟨"GuardNet$Reader", "readQuestion", "()Ljava/util/ArrayList;"⟩ prog_8_method_7_code 2 (some (.object "java/util/ArrayList")) 0 false sL_47 [] [729, 82] = true := by decide +kernel
theorem sC_47 : sx_chkL s_cl s_tf s_nt s_zs s_ks s_mt s_ex s_exn ⟨"GuardNet$Reader", "readQuestion", "()Ljava/util/ArrayList;"⟩ prog_8_method_7_code false [] sL_47 = true := by decide +kernel
/-- GuardNet$Network.begin(Ljava/util/ArrayList;)V -/
theorem sK_48 : sx_chkM 80 s_ex s_nc s_hn ⟨"GuardNet$Network", "begin", "(Ljava/util/ArrayList;)V"⟩ prog_5_method_12_code 3 none 1 false sL_48 [] [735, 86] = true := by decide +kernel
theorem sC_48 : sx_chkL s_cl s_tf s_nt s_zs s_ks s_mt s_ex s_exn ⟨"GuardNet$Network", "begin", "(Ljava/util/ArrayList;)V"⟩ prog_5_method_12_code false [] sL_48 = true := by decide +kernel
/-- GuardNet$Network.dismiss(LGuardNet$Row;)V -/
theorem sK_49 : sx_chkM 80 s_ex s_nc s_hn ⟨"GuardNet$Network", "dismiss", "(LGuardNet$Row;)V"⟩ prog_5_method_13_code 3 none 1 false sL_49 [] [739, 86] = true := by decide +kernel
theorem sC_49 : sx_chkL s_cl s_tf s_nt s_zs s_ks s_mt s_ex s_exn ⟨"GuardNet$Network", "dismiss", "(LGuardNet$Row;)V"⟩ prog_5_method_13_code false [] sL_49 = true := by decide +kernel
/-- GuardNet$Row.take(I)LGuardNet$Goal; -/
theorem sK_50 : sx_chkM 80 s_ex s_nc s_hn ⟨"GuardNet$Row", "take", "(I)LGuardNet$Goal;"⟩ prog_9_method_5_code 4 (some (.object "GuardNet$Goal")) 1 false sL_50 [] [743, 90] = true := by decide +kernel
theorem sC_50 : sx_chkL s_cl s_tf s_nt s_zs s_ks s_mt s_ex s_exn ⟨"GuardNet$Row", "take", "(I)LGuardNet$Goal;"⟩ prog_9_method_5_code false [] sL_50 = true := by decide +kernel
/-- GuardNet$Row.look(I)LGuardNet$Goal; -/
theorem sK_51 : sx_chkM 80 s_ex s_nc s_hn ⟨"GuardNet$Row", "look", "(I)LGuardNet$Goal;"⟩ prog_9_method_3_code 2 (some (.object "GuardNet$Goal")) 1 false sL_51 [] [747, 90] = true := by decide +kernel
theorem sC_51 : sx_chkL s_cl s_tf s_nt s_zs s_ks s_mt s_ex s_exn ⟨"GuardNet$Row", "look", "(I)LGuardNet$Goal;"⟩ prog_9_method_3_code false [] sL_51 = true := by decide +kernel
/-- GuardNet$Row.append(LGuardNet$Goal;)V -/
theorem sK_52 : sx_chkM 80 s_ex s_nc s_hn ⟨"GuardNet$Row", "append", "(LGuardNet$Goal;)V"⟩ prog_9_method_4_code 2 none 1 false sL_52 [] [751, 90] = true := by decide +kernel
theorem sC_52 : sx_chkL s_cl s_tf s_nt s_zs s_ks s_mt s_ex s_exn ⟨"GuardNet$Row", "append", "(LGuardNet$Goal;)V"⟩ prog_9_method_4_code false [] sL_52 = true := by decide +kernel
/-- GuardNet$Store.clear()V -/
theorem sK_53 : sx_chkM 80 s_ex s_nc s_hn ⟨"GuardNet$Store", "clear", "()V"⟩ prog_10_method_2_code 1 none 0 false sL_53 [] [755, 88] = true := by decide +kernel
theorem sC_53 : sx_chkL s_cl s_tf s_nt s_zs s_ks s_mt s_ex s_exn ⟨"GuardNet$Store", "clear", "()V"⟩ prog_10_method_2_code false [] sL_53 = true := by decide +kernel
/-- GuardNet$Use.begin()V -/
theorem sK_54 : sx_chkM 80 s_ex s_nc s_hn ⟨"GuardNet$Use", "begin", "()V"⟩ prog_12_method_2_code 1 none 0 false sL_54 [] [759, 87] = true := by decide +kernel
theorem sC_54 : sx_chkL s_cl s_tf s_nt s_zs s_ks s_mt s_ex s_exn ⟨"GuardNet$Use", "begin", "()V"⟩ prog_12_method_2_code false [] sL_54 = true := by decide +kernel
/-- GuardNet$Network.put(LGuardNet$Item;I)I -/
theorem sK_55 : sx_chkM 80 s_ex s_nc s_hn ⟨"GuardNet$Network", "put", "(LGuardNet$Item;I)I"⟩ prog_5_method_14_code 7 (some .int) 2 false sL_55 [] [773, 86] = true := by decide +kernel
theorem sC_55 : sx_chkL s_cl s_tf s_nt s_zs s_ks s_mt s_ex s_exn ⟨"GuardNet$Network", "put", "(LGuardNet$Item;I)I"⟩ prog_5_method_14_code false [] sL_55 = true := by decide +kernel
/-- GuardNet$Use.build(LGuardNet$Term;)LGuardNet$Node; -/
theorem sK_56 : sx_chkM 80 s_ex s_nc s_hn ⟨"GuardNet$Use", "build", "(LGuardNet$Term;)LGuardNet$Node;"⟩ prog_12_method_12_code 4 (some (.object "GuardNet$Node")) 1 false sL_56 [] [777, 87] = true := by decide +kernel
theorem sC_56 : sx_chkL s_cl s_tf s_nt s_zs s_ks s_mt s_ex s_exn ⟨"GuardNet$Use", "build", "(LGuardNet$Term;)LGuardNet$Node;"⟩ prog_12_method_12_code false [] sL_56 = true := by decide +kernel
/-- GuardNet$Use.isMet(I)Z -/
theorem sK_57 : sx_chkM 80 s_ex s_nc s_hn ⟨"GuardNet$Use", "isMet", "(I)Z"⟩ prog_12_method_13_code 2 (some .boolean) 1 false sL_57 [] [781, 87] = true := by decide +kernel
theorem sC_57 : sx_chkL s_cl s_tf s_nt s_zs s_ks s_mt s_ex s_exn ⟨"GuardNet$Use", "isMet", "(I)Z"⟩ prog_12_method_13_code false [] sL_57 = true := by decide +kernel
/-- GuardNet$Store.makeVariable()LGuardNet$Node; -/
theorem sK_58 : sx_chkM 80 s_ex s_nc s_hn ⟨"GuardNet$Store", "makeVariable", "()LGuardNet$Node;"⟩ prog_10_method_7_code 1 (some (.object "GuardNet$Node")) 0 false sL_58 [] [785, 88] = true := by decide +kernel
theorem sC_58 : sx_chkL s_cl s_tf s_nt s_zs s_ks s_mt s_ex s_exn ⟨"GuardNet$Store", "makeVariable", "()LGuardNet$Node;"⟩ prog_10_method_7_code false [] sL_58 = true := by decide +kernel
/-- GuardNet$Store.make(II)LGuardNet$Node; -/
theorem sK_59 : sx_chkM 80 s_ex s_nc s_hn ⟨"GuardNet$Store", "make", "(II)LGuardNet$Node;"⟩ prog_10_method_6_code 4 (some (.object "GuardNet$Node")) 2 false sL_59 [] [789, 88] = true := by decide +kernel
theorem sC_59 : sx_chkL s_cl s_tf s_nt s_zs s_ks s_mt s_ex s_exn ⟨"GuardNet$Store", "make", "(II)LGuardNet$Node;"⟩ prog_10_method_6_code false [] sL_59 = true := by decide +kernel
/-- GuardNet$Node.<init>()V -/
theorem sK_60 : sx_chkM 80 s_ex s_nc s_hn ⟨"GuardNet$Node", "<init>", "()V"⟩ prog_6_method_1_code 1 none 0 true sL_60 [] [795, 110] = true := by decide +kernel
theorem sC_60 : sx_chkL s_cl s_tf s_nt s_zs s_ks s_mt s_ex s_exn ⟨"GuardNet$Node", "<init>", "()V"⟩ prog_6_method_1_code true [] sL_60 = true := by decide +kernel
/-- GuardNet$Use.meet(ILGuardNet$Node;)V -/
theorem sK_61 : sx_chkM 80 s_ex s_nc s_hn ⟨"GuardNet$Use", "meet", "(ILGuardNet$Node;)V"⟩ prog_12_method_14_code 3 none 2 false sL_61 [] [836, 87] = true := by decide +kernel
theorem sC_61 : sx_chkL s_cl s_tf s_nt s_zs s_ks s_mt s_ex s_exn ⟨"GuardNet$Use", "meet", "(ILGuardNet$Node;)V"⟩ prog_12_method_14_code false [] sL_61 = true := by decide +kernel
/-- GuardNet$Node.hang(LGuardNet$Node;)V -/
theorem sK_62 : sx_chkM 80 s_ex s_nc s_hn ⟨"GuardNet$Node", "hang", "(LGuardNet$Node;)V"⟩ prog_6_method_2_code 2 none 1 false sL_62 [] [842, 110] = true := by decide +kernel
theorem sC_62 : sx_chkL s_cl s_tf s_nt s_zs s_ks s_mt s_ex s_exn ⟨"GuardNet$Node", "hang", "(LGuardNet$Node;)V"⟩ prog_6_method_2_code false [] sL_62 = true := by decide +kernel
/-- GuardNet$Goal.<init>()V -/
theorem sK_63 : sx_chkM 80 s_ex s_nc s_hn ⟨"GuardNet$Goal", "<init>", "()V"⟩ prog_3_method_1_code 1 none 0 true sL_63 [] [848, 111] = true := by decide +kernel
theorem sC_63 : sx_chkL s_cl s_tf s_nt s_zs s_ks s_mt s_ex s_exn ⟨"GuardNet$Goal", "<init>", "()V"⟩ prog_3_method_1_code true [] sL_63 = true := by decide +kernel
/-- GuardNet$Goal.become(II)V -/
theorem sK_64 : sx_chkM 80 s_ex s_nc s_hn ⟨"GuardNet$Goal", "become", "(II)V"⟩ prog_3_method_2_code 3 none 2 false sL_64 [] [878, 111] = true := by decide +kernel
theorem sC_64 : sx_chkL s_cl s_tf s_nt s_zs s_ks s_mt s_ex s_exn ⟨"GuardNet$Goal", "become", "(II)V"⟩ prog_3_method_2_code false [] sL_64 = true := by decide +kernel
/-- GuardNet$Use.named(I)LGuardNet$Node; -/
theorem sK_65 : sx_chkM 80 s_ex s_nc s_hn ⟨"GuardNet$Use", "named", "(I)LGuardNet$Node;"⟩ prog_12_method_3_code 2 (some (.object "GuardNet$Node")) 1 false sL_65 [] [882, 87] = true := by decide +kernel
theorem sC_65 : sx_chkL s_cl s_tf s_nt s_zs s_ks s_mt s_ex s_exn ⟨"GuardNet$Use", "named", "(I)LGuardNet$Node;"⟩ prog_12_method_3_code false [] sL_65 = true := by decide +kernel
/-- GuardNetLaw.run(LGuardNet;I[J)I -/
theorem sK_66 : sx_chkM 80 s_ex s_nc s_hn ⟨"GuardNetLaw", "run", "(LGuardNet;I[J)I"⟩ method_7_code 4 (some .int) 3 false sL_66 [(0, 9, 12, 13, [0]), (0, 9, 15, 15, [1]), (0, 9, 18, 32, [2])] [885, 80] = true := by decide +kernel
theorem sC_66 : sx_chkL s_cl s_tf s_nt s_zs s_ks s_mt s_ex s_exn ⟨"GuardNetLaw", "run", "(LGuardNet;I[J)I"⟩ method_7_code false [(0, 9, 12, 13, [0]), (0, 9, 15, 15, [1]), (0, 9, 18, 32, [2])] sL_66 = true := by decide +kernel
/-- GuardNet.run(I)I -/
theorem sK_67 : sx_chkM 80 s_ex s_nc s_hn ⟨"GuardNet", "run", "(I)I"⟩ prog_1_method_7_code 3 (some .int) 1 false sL_67 [] [890, 81] = true := by decide +kernel
theorem sC_67 : sx_chkL s_cl s_tf s_nt s_zs s_ks s_mt s_ex s_exn ⟨"GuardNet", "run", "(I)I"⟩ prog_1_method_7_code false [] sL_67 = true := by decide +kernel
/-- GuardNet$Network.hasMoreToDo()Z -/
theorem sK_68 : sx_chkM 80 s_ex s_nc s_hn ⟨"GuardNet$Network", "hasMoreToDo", "()Z"⟩ prog_5_method_9_code 1 (some .boolean) 0 false sL_68 [] [894, 86] = true := by decide +kernel
theorem sC_68 : sx_chkL s_cl s_tf s_nt s_zs s_ks s_mt s_ex s_exn ⟨"GuardNet$Network", "hasMoreToDo", "()Z"⟩ prog_5_method_9_code false [] sL_68 = true := by decide +kernel
/-- GuardNet$Network.step(Ljava/util/ArrayList;)V -/
theorem sK_69 : sx_chkM 80 s_ex s_nc s_hn ⟨"GuardNet$Network", "step", "(Ljava/util/ArrayList;)V"⟩ prog_5_method_15_code 3 none 1 false sL_69 [] [898, 86] = true := by decide +kernel
theorem sC_69 : sx_chkL s_cl s_tf s_nt s_zs s_ks s_mt s_ex s_exn ⟨"GuardNet$Network", "step", "(Ljava/util/ArrayList;)V"⟩ prog_5_method_15_code false [] sL_69 = true := by decide +kernel
/-- GuardNet$Network.takeFirst()LGuardNet$Goal; -/
theorem sK_70 : sx_chkM 80 s_ex s_nc s_hn ⟨"GuardNet$Network", "takeFirst", "()LGuardNet$Goal;"⟩ prog_5_method_17_code 2 (some (.object "GuardNet$Goal")) 0 false sL_70 [] [902, 86] = true := by decide +kernel
theorem sC_70 : sx_chkL s_cl s_tf s_nt s_zs s_ks s_mt s_ex s_exn ⟨"GuardNet$Network", "takeFirst", "()LGuardNet$Goal;"⟩ prog_5_method_17_code false [] sL_70 = true := by decide +kernel
/-- GuardNet$Network.reduce(LGuardNet$Goal;Ljava/util/ArrayList;)I -/
theorem sK_71 : sx_chkM 80 s_ex s_nc s_hn ⟨"GuardNet$Network", "reduce", "(LGuardNet$Goal;Ljava/util/ArrayList;)I"⟩ prog_5_method_18_code 5 (some .int) 2 false sL_71 [] [906, 86] = true := by decide +kernel
theorem sC_71 : sx_chkL s_cl s_tf s_nt s_zs s_ks s_mt s_ex s_exn ⟨"GuardNet$Network", "reduce", "(LGuardNet$Goal;Ljava/util/ArrayList;)I"⟩ prog_5_method_18_code false [] sL_71 = true := by decide +kernel
/-- GuardNet$Use.attempt(LGuardNet$Clause;LGuardNet$Node;)I -/
theorem sK_72 : sx_chkM 80 s_ex s_nc s_hn ⟨"GuardNet$Use", "attempt", "(LGuardNet$Clause;LGuardNet$Node;)I"⟩ prog_12_method_5_code 5 (some .int) 2 false sL_72 [] [911, 87] = true := by decide +kernel
theorem sC_72 : sx_chkL s_cl s_tf s_nt s_zs s_ks s_mt s_ex s_exn ⟨"GuardNet$Use", "attempt", "(LGuardNet$Clause;LGuardNet$Node;)I"⟩ prog_12_method_5_code false [] sL_72 = true := by decide +kernel
/-- GuardNet$Use.match(LGuardNet$Term;LGuardNet$Node;)I -/
theorem sK_73 : sx_chkM 80 s_ex s_nc s_hn ⟨"GuardNet$Use", "match", "(LGuardNet$Term;LGuardNet$Node;)I"⟩ prog_12_method_6_code 6 (some .int) 2 false sL_73 [] [916, 87] = true := by decide +kernel
theorem sC_73 : sx_chkL s_cl s_tf s_nt s_zs s_ks s_mt s_ex s_exn ⟨"GuardNet$Use", "match", "(LGuardNet$Term;LGuardNet$Node;)I"⟩ prog_12_method_6_code false [] sL_73 = true := by decide +kernel
/-- GuardNet$Node.atLast()LGuardNet$Node; -/
theorem sK_74 : sx_chkM 80 s_ex s_nc s_hn ⟨"GuardNet$Node", "atLast", "()LGuardNet$Node;"⟩ prog_6_method_3_code 3 (some (.object "GuardNet$Node")) 0 false sL_74 [] [920, 110] = true := by decide +kernel
theorem sC_74 : sx_chkL s_cl s_tf s_nt s_zs s_ks s_mt s_ex s_exn ⟨"GuardNet$Node", "atLast", "()LGuardNet$Node;"⟩ prog_6_method_3_code false [] sL_74 = true := by decide +kernel
/-- GuardNet$Use.compare(LGuardNet$Node;LGuardNet$Node;)I -/
theorem sK_75 : sx_chkM 80 s_ex s_nc s_hn ⟨"GuardNet$Use", "compare", "(LGuardNet$Node;LGuardNet$Node;)I"⟩ prog_12_method_9_code 4 (some .int) 2 false sL_75 [] [925, 87] = true := by decide +kernel
theorem sC_75 : sx_chkL s_cl s_tf s_nt s_zs s_ks s_mt s_ex s_exn ⟨"GuardNet$Use", "compare", "(LGuardNet$Node;LGuardNet$Node;)I"⟩ prog_12_method_9_code false [] sL_75 = true := by decide +kernel
/-- GuardNet$Pairs.begin(LGuardNet$Node;LGuardNet$Node;)V -/
theorem sK_76 : sx_chkM 80 s_ex s_nc s_hn ⟨"GuardNet$Pairs", "begin", "(LGuardNet$Node;LGuardNet$Node;)V"⟩ prog_7_method_2_code 3 none 2 false sL_76 [] [929, 89] = true := by decide +kernel
theorem sC_76 : sx_chkL s_cl s_tf s_nt s_zs s_ks s_mt s_ex s_exn ⟨"GuardNet$Pairs", "begin", "(LGuardNet$Node;LGuardNet$Node;)V"⟩ prog_7_method_2_code false [] sL_76 = true := by decide +kernel
/-- GuardNet$Pairs.next()I -/
theorem sK_77 : sx_chkM 80 s_ex s_nc s_hn ⟨"GuardNet$Pairs", "next", "()I"⟩ prog_7_method_6_code 1 (some .int) 0 false sL_77 [] [933, 89] = true := by decide +kernel
theorem sC_77 : sx_chkL s_cl s_tf s_nt s_zs s_ks s_mt s_ex s_exn ⟨"GuardNet$Pairs", "next", "()I"⟩ prog_7_method_6_code false [] sL_77 = true := by decide +kernel
/-- GuardNet$Pairs.beginAlike()Z -/
theorem sK_78 : sx_chkM 80 s_ex s_nc s_hn ⟨"GuardNet$Pairs", "beginAlike", "()Z"⟩ prog_7_method_7_code 1 (some .boolean) 0 false sL_78 [] [938, 89] = true := by decide +kernel
theorem sC_78 : sx_chkL s_cl s_tf s_nt s_zs s_ks s_mt s_ex s_exn ⟨"GuardNet$Pairs", "beginAlike", "()Z"⟩ prog_7_method_7_code false [] sL_78 = true := by decide +kernel
/-- GuardNet$Pairs.pushParts()V -/
theorem sK_79 : sx_chkM 80 s_ex s_nc s_hn ⟨"GuardNet$Pairs", "pushParts", "()V"⟩ prog_7_method_8_code 2 none 0 false sL_79 [] [942, 89] = true := by decide +kernel
theorem sC_79 : sx_chkL s_cl s_tf s_nt s_zs s_ks s_mt s_ex s_exn ⟨"GuardNet$Pairs", "pushParts", "()V"⟩ prog_7_method_8_code false [] sL_79 = true := by decide +kernel
/-- GuardNet$Pairs.firstVariable()LGuardNet$Node; -/
theorem sK_80 : sx_chkM 80 s_ex s_nc s_hn ⟨"GuardNet$Pairs", "firstVariable", "()LGuardNet$Node;"⟩ prog_7_method_5_code 1 (some (.object "GuardNet$Node")) 0 false sL_80 [] [946, 89] = true := by decide +kernel
theorem sC_80 : sx_chkL s_cl s_tf s_nt s_zs s_ks s_mt s_ex s_exn ⟨"GuardNet$Pairs", "firstVariable", "()LGuardNet$Node;"⟩ prog_7_method_5_code false [] sL_80 = true := by decide +kernel
/-- GuardNet$Use.waitFor(LGuardNet$Node;)I -/
theorem sK_81 : sx_chkM 80 s_ex s_nc s_hn ⟨"GuardNet$Use", "waitFor", "(LGuardNet$Node;)I"⟩ prog_12_method_11_code 2 (some .int) 1 false sL_81 [] [950, 87] = true := by decide +kernel
theorem sC_81 : sx_chkL s_cl s_tf s_nt s_zs s_ks s_mt s_ex s_exn ⟨"GuardNet$Use", "waitFor", "(LGuardNet$Node;)I"⟩ prog_12_method_11_code false [] sL_81 = true := by decide +kernel
/-- GuardNet$Use.check(LGuardNet$Item;)I -/
theorem sK_82 : sx_chkM 80 s_ex s_nc s_hn ⟨"GuardNet$Use", "check", "(LGuardNet$Item;)I"⟩ prog_12_method_7_code 6 (some .int) 1 false sL_82 [] [957, 87] = true := by decide +kernel
theorem sC_82 : sx_chkL s_cl s_tf s_nt s_zs s_ks s_mt s_ex s_exn ⟨"GuardNet$Use", "check", "(LGuardNet$Item;)I"⟩ prog_12_method_7_code false [] sL_82 = true := by decide +kernel
/-- GuardNet$Store.used()I -/
theorem sK_83 : sx_chkM 80 s_ex s_nc s_hn ⟨"GuardNet$Store", "used", "()I"⟩ prog_10_method_3_code 1 (some .int) 0 false sL_83 [] [961, 88] = true := by decide +kernel
theorem sC_83 : sx_chkL s_cl s_tf s_nt s_zs s_ks s_mt s_ex s_exn ⟨"GuardNet$Store", "used", "()I"⟩ prog_10_method_3_code false [] sL_83 = true := by decide +kernel
/-- GuardNet$Use.below(LGuardNet$Node;LGuardNet$Node;)I -/
theorem sK_84 : sx_chkM 80 s_ex s_nc s_hn ⟨"GuardNet$Use", "below", "(LGuardNet$Node;LGuardNet$Node;)I"⟩ prog_12_method_8_code 6 (some .int) 2 false sL_84 [] [965, 87] = true := by decide +kernel
theorem sC_84 : sx_chkL s_cl s_tf s_nt s_zs s_ks s_mt s_ex s_exn ⟨"GuardNet$Use", "below", "(LGuardNet$Node;LGuardNet$Node;)I"⟩ prog_12_method_8_code false [] sL_84 = true := by decide +kernel
/-- GuardNet$Store.release(I)V -/
theorem sK_85 : sx_chkM 80 s_ex s_nc s_hn ⟨"GuardNet$Store", "release", "(I)V"⟩ prog_10_method_5_code 2 none 1 false sL_85 [] [969, 88] = true := by decide +kernel
theorem sC_85 : sx_chkL s_cl s_tf s_nt s_zs s_ks s_mt s_ex s_exn ⟨"GuardNet$Store", "release", "(I)V"⟩ prog_10_method_5_code false [] sL_85 = true := by decide +kernel
/-- GuardNet$Use.reversed(I)I -/
theorem sK_86 : sx_chkM 80 s_ex s_nc s_hn ⟨"GuardNet$Use", "reversed", "(I)I"⟩ prog_12_method_10_code 1 (some .int) 1 false sL_86 [] [972, 87] = true := by decide +kernel
theorem sC_86 : sx_chkL s_cl s_tf s_nt s_zs s_ks s_mt s_ex s_exn ⟨"GuardNet$Use", "reversed", "(I)I"⟩ prog_12_method_10_code false [] sL_86 = true := by decide +kernel
/-- GuardNet$Network.putAll(Ljava/util/ArrayList;I)I -/
theorem sK_87 : sx_chkM 80 s_ex s_nc s_hn ⟨"GuardNet$Network", "putAll", "(Ljava/util/ArrayList;I)I"⟩ prog_5_method_19_code 5 (some .int) 2 false sL_87 [] [976, 86] = true := by decide +kernel
theorem sC_87 : sx_chkL s_cl s_tf s_nt s_zs s_ks s_mt s_ex s_exn ⟨"GuardNet$Network", "putAll", "(Ljava/util/ArrayList;I)I"⟩ prog_5_method_19_code false [] sL_87 = true := by decide +kernel
/-- GuardNet$Use.found()LGuardNet$Node; -/
theorem sK_88 : sx_chkM 80 s_ex s_nc s_hn ⟨"GuardNet$Use", "found", "()LGuardNet$Node;"⟩ prog_12_method_4_code 1 (some (.object "GuardNet$Node")) 0 false sL_88 [] [980, 87] = true := by decide +kernel
theorem sC_88 : sx_chkL s_cl s_tf s_nt s_zs s_ks s_mt s_ex s_exn ⟨"GuardNet$Use", "found", "()LGuardNet$Node;"⟩ prog_12_method_4_code false [] sL_88 = true := by decide +kernel
/-- GuardNet$Goal.await(LGuardNet$Node;)V -/
theorem sK_89 : sx_chkM 80 s_ex s_nc s_hn ⟨"GuardNet$Goal", "await", "(LGuardNet$Node;)V"⟩ prog_3_method_4_code 2 none 1 false sL_89 [] [984, 111] = true := by decide +kernel
theorem sC_89 : sx_chkL s_cl s_tf s_nt s_zs s_ks s_mt s_ex s_exn ⟨"GuardNet$Goal", "await", "(LGuardNet$Node;)V"⟩ prog_3_method_4_code false [] sL_89 = true := by decide +kernel
/-- GuardNet$Goal.awaits(LGuardNet$Node;)Z -/
theorem sK_90 : sx_chkM 80 s_ex s_nc s_hn ⟨"GuardNet$Goal", "awaits", "(LGuardNet$Node;)Z"⟩ prog_3_method_5_code 3 (some .boolean) 1 false sL_90 [] [988, 111] = true := by decide +kernel
theorem sC_90 : sx_chkL s_cl s_tf s_nt s_zs s_ks s_mt s_ex s_exn ⟨"GuardNet$Goal", "awaits", "(LGuardNet$Node;)Z"⟩ prog_3_method_5_code false [] sL_90 = true := by decide +kernel
/-- GuardNet$Goal.mustWait()Z -/
theorem sK_91 : sx_chkM 80 s_ex s_nc s_hn ⟨"GuardNet$Goal", "mustWait", "()Z"⟩ prog_3_method_6_code 1 (some .boolean) 0 false sL_91 [] [992, 111] = true := by decide +kernel
theorem sC_91 : sx_chkL s_cl s_tf s_nt s_zs s_ks s_mt s_ex s_exn ⟨"GuardNet$Goal", "mustWait", "()Z"⟩ prog_3_method_6_code false [] sL_91 = true := by decide +kernel
/-- GuardNet$Network.settle(LGuardNet$Goal;I)V -/
theorem sK_92 : sx_chkM 80 s_ex s_nc s_hn ⟨"GuardNet$Network", "settle", "(LGuardNet$Goal;I)V"⟩ prog_5_method_16_code 3 none 2 false sL_92 [] [996, 86] = true := by decide +kernel
theorem sC_92 : sx_chkL s_cl s_tf s_nt s_zs s_ks s_mt s_ex s_exn ⟨"GuardNet$Network", "settle", "(LGuardNet$Goal;I)V"⟩ prog_5_method_16_code false [] sL_92 = true := by decide +kernel
/-- GuardNet$Network.makeSame(LGuardNet$Node;LGuardNet$Node;)I -/
theorem sK_93 : sx_chkM 80 s_ex s_nc s_hn ⟨"GuardNet$Network", "makeSame", "(LGuardNet$Node;LGuardNet$Node;)I"⟩ prog_5_method_22_code 6 (some .int) 2 false sL_93 [] [1000, 86] = true := by decide +kernel
theorem sC_93 : sx_chkL s_cl s_tf s_nt s_zs s_ks s_mt s_ex s_exn ⟨"GuardNet$Network", "makeSame", "(LGuardNet$Node;LGuardNet$Node;)I"⟩ prog_5_method_22_code false [] sL_93 = true := by decide +kernel
/-- GuardNet$Pairs.left()LGuardNet$Node; -/
theorem sK_94 : sx_chkM 80 s_ex s_nc s_hn ⟨"GuardNet$Pairs", "left", "()LGuardNet$Node;"⟩ prog_7_method_3_code 1 (some (.object "GuardNet$Node")) 0 false sL_94 [] [1006, 89] = true := by decide +kernel
theorem sC_94 : sx_chkL s_cl s_tf s_nt s_zs s_ks s_mt s_ex s_exn ⟨"GuardNet$Pairs", "left", "()LGuardNet$Node;"⟩ prog_7_method_3_code false [] sL_94 = true := by decide +kernel
/-- GuardNet$Pairs.right()LGuardNet$Node; -/
theorem sK_95 : sx_chkM 80 s_ex s_nc s_hn ⟨"GuardNet$Pairs", "right", "()LGuardNet$Node;"⟩ prog_7_method_4_code 1 (some (.object "GuardNet$Node")) 0 false sL_95 [] [1010, 89] = true := by decide +kernel
theorem sC_95 : sx_chkL s_cl s_tf s_nt s_zs s_ks s_mt s_ex s_exn ⟨"GuardNet$Pairs", "right", "()LGuardNet$Node;"⟩ prog_7_method_4_code false [] sL_95 = true := by decide +kernel
/-- GuardNet$Network.join(LGuardNet$Node;LGuardNet$Node;)V -/
theorem sK_96 : sx_chkM 80 s_ex s_nc s_hn ⟨"GuardNet$Network", "join", "(LGuardNet$Node;LGuardNet$Node;)V"⟩ prog_5_method_23_code 5 none 2 false sL_96 [] [1014, 86] = true := by decide +kernel
theorem sC_96 : sx_chkL s_cl s_tf s_nt s_zs s_ks s_mt s_ex s_exn ⟨"GuardNet$Network", "join", "(LGuardNet$Node;LGuardNet$Node;)V"⟩ prog_5_method_23_code false [] sL_96 = true := by decide +kernel
/-- GuardNet$Network.wake(LGuardNet$Node;)V -/
theorem sK_97 : sx_chkM 80 s_ex s_nc s_hn ⟨"GuardNet$Network", "wake", "(LGuardNet$Node;)V"⟩ prog_5_method_24_code 5 none 1 false sL_97 [] [1018, 86] = true := by decide +kernel
theorem sC_97 : sx_chkL s_cl s_tf s_nt s_zs s_ks s_mt s_ex s_exn ⟨"GuardNet$Network", "wake", "(LGuardNet$Node;)V"⟩ prog_5_method_24_code false [] sL_97 = true := by decide +kernel
/-- GuardNet$Goal.awaitNothing()V -/
theorem sK_98 : sx_chkM 80 s_ex s_nc s_hn ⟨"GuardNet$Goal", "awaitNothing", "()V"⟩ prog_3_method_3_code 1 none 0 false sL_98 [] [1024, 111] = true := by decide +kernel
theorem sC_98 : sx_chkL s_cl s_tf s_nt s_zs s_ks s_mt s_ex s_exn ⟨"GuardNet$Goal", "awaitNothing", "()V"⟩ prog_3_method_3_code false [] sL_98 = true := by decide +kernel
/-- GuardNet$Network.reckon(LGuardNet$Goal;)I -/
theorem sK_99 : sx_chkM 80 s_ex s_nc s_hn ⟨"GuardNet$Network", "reckon", "(LGuardNet$Goal;)I"⟩ prog_5_method_20_code 5 (some .int) 1 false sL_99 [] [1028, 86] = true := by decide +kernel
theorem sC_99 : sx_chkL s_cl s_tf s_nt s_zs s_ks s_mt s_ex s_exn ⟨"GuardNet$Network", "reckon", "(LGuardNet$Goal;)I"⟩ prog_5_method_20_code false [] sL_99 = true := by decide +kernel
/-- GuardNet$Network.reckoned(III)I -/
theorem sK_100 : sx_chkM 80 s_ex s_nc s_hn ⟨"GuardNet$Network", "reckoned", "(III)I"⟩ prog_5_method_21_code 3 (some .int) 3 false sL_100 [] [1032, 86] = true := by decide +kernel
theorem sC_100 : sx_chkL s_cl s_tf s_nt s_zs s_ks s_mt s_ex s_exn ⟨"GuardNet$Network", "reckoned", "(III)I"⟩ prog_5_method_21_code false [] sL_100 = true := by decide +kernel
/-- GuardNetLaw.letter(LGuardNet;II[J)I -/
theorem sK_101 : sx_chkM 80 s_ex s_nc s_hn ⟨"GuardNetLaw", "letter", "(LGuardNet;II[J)I"⟩ method_8_code 5 (some .int) 4 false sL_101 [(0, 10, 13, 13, [0]), (0, 10, 17, 38, [3])] [1051, 80] = true := by decide +kernel
theorem sC_101 : sx_chkL s_cl s_tf s_nt s_zs s_ks s_mt s_ex s_exn ⟨"GuardNetLaw", "letter", "(LGuardNet;II[J)I"⟩ method_8_code false [(0, 10, 13, 13, [0]), (0, 10, 17, 38, [3])] sL_101 = true := by decide +kernel
/-- GuardNet.letter(II)I -/
theorem sK_102 : sx_chkM 80 s_ex s_nc s_hn ⟨"GuardNet", "letter", "(II)I"⟩ prog_1_method_8_code 5 (some .int) 2 false sL_102 [] [1056, 81] = true := by decide +kernel
theorem sC_102 : sx_chkL s_cl s_tf s_nt s_zs s_ks s_mt s_ex s_exn ⟨"GuardNet", "letter", "(II)I"⟩ prog_1_method_8_code false [] sL_102 = true := by decide +kernel
/-- GuardNet$Network.named(I)LGuardNet$Node; -/
theorem sK_103 : sx_chkM 80 s_ex s_nc s_hn ⟨"GuardNet$Network", "named", "(I)LGuardNet$Node;"⟩ prog_5_method_10_code 2 (some (.object "GuardNet$Node")) 1 false sL_103 [] [1060, 86] = true := by decide +kernel
theorem sC_103 : sx_chkL s_cl s_tf s_nt s_zs s_ks s_mt s_ex s_exn ⟨"GuardNet$Network", "named", "(I)LGuardNet$Node;"⟩ prog_5_method_10_code false [] sL_103 = true := by decide +kernel
/-- GuardNet.spell(LGuardNet$Node;I)V -/
theorem sK_104 : sx_chkM 80 s_ex s_nc s_hn ⟨"GuardNet", "spell", "(LGuardNet$Node;I)V"⟩ prog_1_method_9_code 5 none 2 false sL_104 [] [1308, 81] = true := by decide +kernel
theorem sC_104 : sx_chkL s_cl s_tf s_nt s_zs s_ks s_mt s_ex s_exn ⟨"GuardNet", "spell", "(LGuardNet$Node;I)V"⟩ prog_1_method_9_code false [] sL_104 = true := by decide +kernel
/-- GuardNetLaw.sleeping(LGuardNet;I[J)I -/
theorem sK_105 : sx_chkM 80 s_ex s_nc s_hn ⟨"GuardNetLaw", "sleeping", "(LGuardNet;I[J)I"⟩ method_9_code 4 (some .int) 3 false sL_105 [(0, 9, 12, 13, [0])] [1345, 80] = true := by decide +kernel
theorem sC_105 : sx_chkL s_cl s_tf s_nt s_zs s_ks s_mt s_ex s_exn ⟨"GuardNetLaw", "sleeping", "(LGuardNet;I[J)I"⟩ method_9_code false [(0, 9, 12, 13, [0])] sL_105 = true := by decide +kernel
/-- GuardNet.sleeping(I)I -/
theorem sK_106 : sx_chkM 80 s_ex s_nc s_hn ⟨"GuardNet", "sleeping", "(I)I"⟩ prog_1_method_10_code 3 (some .int) 1 false sL_106 [] [1349, 81] = true := by decide +kernel
theorem sC_106 : sx_chkL s_cl s_tf s_nt s_zs s_ks s_mt s_ex s_exn ⟨"GuardNet", "sleeping", "(I)I"⟩ prog_1_method_10_code false [] sL_106 = true := by decide +kernel
/-- GuardNet$Network.sleepersOn(LGuardNet$Node;)I -/
theorem sK_107 : sx_chkM 80 s_ex s_nc s_hn ⟨"GuardNet$Network", "sleepersOn", "(LGuardNet$Node;)I"⟩ prog_5_method_11_code 5 (some .int) 1 false sL_107 [] [1353, 86] = true := by decide +kernel
theorem sC_107 : sx_chkL s_cl s_tf s_nt s_zs s_ks s_mt s_ex s_exn ⟨"GuardNet$Network", "sleepersOn", "(LGuardNet$Node;)I"⟩ prog_5_method_11_code false [] sL_107 = true := by decide +kernel
/-- GuardNetModel.<init>()V -/
theorem sK_108 : sx_chkM 80 s_ex s_nc s_hn ⟨"GuardNetModel", "<init>", "()V"⟩ prog_14_method_1_code 1 none 0 true sL_108 [] [1358, 95] = true := by decide +kernel
theorem sC_108 : sx_chkL s_cl s_tf s_nt s_zs s_ks s_mt s_ex s_exn ⟨"GuardNetModel", "<init>", "()V"⟩ prog_14_method_1_code true [] sL_108 = true := by decide +kernel
/-- GuardNetModel.thrown()I -/
theorem sK_109 : sx_chkM 80 s_ex s_nc s_hn ⟨"GuardNetModel", "thrown", "()I"⟩ prog_14_method_2_code 1 (some .int) 0 false sL_109 [] [1508, 95] = true := by decide +kernel
theorem sC_109 : sx_chkL s_cl s_tf s_nt s_zs s_ks s_mt s_ex s_exn ⟨"GuardNetModel", "thrown", "()I"⟩ prog_14_method_2_code false [] sL_109 = true := by decide +kernel
/-- GuardNetModel.type(J)I -/
theorem sK_110 : sx_chkM 80 s_ex s_nc s_hn ⟨"GuardNetModel", "type", "(J)I"⟩ prog_14_method_6_code 7 (some .int) 1 false sL_110 [] [1512, 95] = true := by decide +kernel
theorem sC_110 : sx_chkL s_cl s_tf s_nt s_zs s_ks s_mt s_ex s_exn ⟨"GuardNetModel", "type", "(J)I"⟩ prog_14_method_6_code false [] sL_110 = true := by decide +kernel
/-- GuardNetModel.in(III)Z -/
theorem sK_111 : sx_chkM 80 s_ex s_nc s_hn ⟨"GuardNetModel", "in", "(III)Z"⟩ prog_14_method_3_code 3 (some .boolean) 3 false sL_111 [] [1515, 95] = true := by decide +kernel
theorem sC_111 : sx_chkL s_cl s_tf s_nt s_zs s_ks s_mt s_ex s_exn ⟨"GuardNetModel", "in", "(III)Z"⟩ prog_14_method_3_code false [] sL_111 = true := by decide +kernel
/-- GuardNetModel.bad(Z)Z -/
theorem sK_112 : sx_chkM 80 s_ex s_nc s_hn ⟨"GuardNetModel", "bad", "(Z)Z"⟩ prog_14_method_4_code 2 (some .boolean) 1 false sL_112 [] [1519, 95] = true := by decide +kernel
theorem sC_112 : sx_chkL s_cl s_tf s_nt s_zs s_ks s_mt s_ex s_exn ⟨"GuardNetModel", "bad", "(Z)Z"⟩ prog_14_method_4_code false [] sL_112 = true := by decide +kernel
/-- GuardNetModel.fail(I)I -/
theorem sK_113 : sx_chkM 80 s_ex s_nc s_hn ⟨"GuardNetModel", "fail", "(I)I"⟩ prog_14_method_5_code 2 (some .int) 1 false sL_113 [] [1523, 95] = true := by decide +kernel
theorem sC_113 : sx_chkL s_cl s_tf s_nt s_zs s_ks s_mt s_ex s_exn ⟨"GuardNetModel", "fail", "(I)I"⟩ prog_14_method_5_code false [] sL_113 = true := by decide +kernel
/-- GuardNetModel.add()I -/
theorem sK_114 : sx_chkM 80 s_ex s_nc s_hn ⟨"GuardNetModel", "add", "()I"⟩ prog_14_method_12_code 3 (some .int) 0 false sL_114 [] [1527, 95] = true := by decide +kernel
theorem sC_114 : sx_chkL s_cl s_tf s_nt s_zs s_ks s_mt s_ex s_exn ⟨"GuardNetModel", "add", "()I"⟩ prog_14_method_12_code false [] sL_114 = true := by decide +kernel
/-- GuardNetModel.readClause()Z -/
theorem sK_115 : sx_chkM 80 s_ex s_nc s_hn ⟨"GuardNetModel", "readClause", "()Z"⟩ prog_14_method_11_code 1 (some .boolean) 0 false sL_115 [] [1531, 95] = true := by decide +kernel
theorem sC_115 : sx_chkL s_cl s_tf s_nt s_zs s_ks s_mt s_ex s_exn ⟨"GuardNetModel", "readClause", "()Z"⟩ prog_14_method_11_code false [] sL_115 = true := by decide +kernel
/-- GuardNetModel.readTerm(Z)Z -/
theorem sK_116 : sx_chkM 80 s_ex s_nc s_hn ⟨"GuardNetModel", "readTerm", "(Z)Z"⟩ prog_14_method_9_code 6 (some .boolean) 1 false sL_116 [] [1535, 95] = true := by decide +kernel
theorem sC_116 : sx_chkL s_cl s_tf s_nt s_zs s_ks s_mt s_ex s_exn ⟨"GuardNetModel", "readTerm", "(Z)Z"⟩ prog_14_method_9_code false [] sL_116 = true := by decide +kernel
/-- GuardNetModel.look()I -/
theorem sK_117 : sx_chkM 80 s_ex s_nc s_hn ⟨"GuardNetModel", "look", "()I"⟩ prog_14_method_7_code 1 (some .int) 0 false sL_117 [] [1539, 95] = true := by decide +kernel
theorem sC_117 : sx_chkL s_cl s_tf s_nt s_zs s_ks s_mt s_ex s_exn ⟨"GuardNetModel", "look", "()I"⟩ prog_14_method_7_code false [] sL_117 = true := by decide +kernel
/-- GuardNetModel.passes(I)Z -/
theorem sK_118 : sx_chkM 80 s_ex s_nc s_hn ⟨"GuardNetModel", "passes", "(I)Z"⟩ prog_14_method_8_code 2 (some .boolean) 1 false sL_118 [] [1543, 95] = true := by decide +kernel
theorem sC_118 : sx_chkL s_cl s_tf s_nt s_zs s_ks s_mt s_ex s_exn ⟨"GuardNetModel", "passes", "(I)Z"⟩ prog_14_method_8_code false [] sL_118 = true := by decide +kernel
/-- GuardNetModel.readGoals()Z -/
theorem sK_119 : sx_chkM 80 s_ex s_nc s_hn ⟨"GuardNetModel", "readGoals", "()Z"⟩ prog_14_method_10_code 3 (some .boolean) 0 false sL_119 [] [1547, 95] = true := by decide +kernel
theorem sC_119 : sx_chkL s_cl s_tf s_nt s_zs s_ks s_mt s_ex s_exn ⟨"GuardNetModel", "readGoals", "()Z"⟩ prog_14_method_10_code false [] sL_119 = true := by decide +kernel
/-- GuardNetModel.drop(I)V -/
theorem sK_120 : sx_chkM 80 s_ex s_nc s_hn ⟨"GuardNetModel", "drop", "(I)V"⟩ prog_14_method_13_code 4 none 1 false sL_120 [] [1551, 95] = true := by decide +kernel
theorem sC_120 : sx_chkL s_cl s_tf s_nt s_zs s_ks s_mt s_ex s_exn ⟨"GuardNetModel", "drop", "(I)V"⟩ prog_14_method_13_code false [] sL_120 = true := by decide +kernel
/-- GuardNetModel.ask()I -/
theorem sK_121 : sx_chkM 80 s_ex s_nc s_hn ⟨"GuardNetModel", "ask", "()I"⟩ prog_14_method_44_code 4 (some .int) 0 false sL_121 [] [1555, 95] = true := by decide +kernel
theorem sC_121 : sx_chkL s_cl s_tf s_nt s_zs s_ks s_mt s_ex s_exn ⟨"GuardNetModel", "ask", "()I"⟩ prog_14_method_44_code false [] sL_121 = true := by decide +kernel
/-- GuardNetModel.bear(I)V -/
theorem sK_122 : sx_chkM 80 s_ex s_nc s_hn ⟨"GuardNetModel", "bear", "(I)V"⟩ prog_14_method_22_code 4 none 1 false sL_122 [] [1560, 95] = true := by decide +kernel
theorem sC_122 : sx_chkL s_cl s_tf s_nt s_zs s_ks s_mt s_ex s_exn ⟨"GuardNetModel", "bear", "(I)V"⟩ prog_14_method_22_code false [] sL_122 = true := by decide +kernel
/-- GuardNetModel.buildGoals(I)I -/
theorem sK_123 : sx_chkM 80 s_ex s_nc s_hn ⟨"GuardNetModel", "buildGoals", "(I)I"⟩ prog_14_method_29_code 7 (some .int) 1 false sL_123 [] [1564, 95] = true := by decide +kernel
theorem sC_123 : sx_chkL s_cl s_tf s_nt s_zs s_ks s_mt s_ex s_exn ⟨"GuardNetModel", "buildGoals", "(I)I"⟩ prog_14_method_29_code false [] sL_123 = true := by decide +kernel
/-- GuardNetModel.build()I -/
theorem sK_124 : sx_chkM 80 s_ex s_nc s_hn ⟨"GuardNetModel", "build", "()I"⟩ prog_14_method_18_code 4 (some .int) 0 false sL_124 [] [1568, 95] = true := by decide +kernel
theorem sC_124 : sx_chkL s_cl s_tf s_nt s_zs s_ks s_mt s_ex s_exn ⟨"GuardNetModel", "build", "()I"⟩ prog_14_method_18_code false [] sL_124 = true := by decide +kernel
/-- GuardNetModel.at(I)I -/
theorem sK_125 : sx_chkM 80 s_ex s_nc s_hn ⟨"GuardNetModel", "at", "(I)I"⟩ prog_14_method_14_code 2 (some .int) 1 false sL_125 [] [1572, 95] = true := by decide +kernel
theorem sC_125 : sx_chkL s_cl s_tf s_nt s_zs s_ks s_mt s_ex s_exn ⟨"GuardNetModel", "at", "(I)I"⟩ prog_14_method_14_code false [] sL_125 = true := by decide +kernel
/-- GuardNetModel.leaf()I -/
theorem sK_126 : sx_chkM 80 s_ex s_nc s_hn ⟨"GuardNetModel", "leaf", "()I"⟩ prog_14_method_17_code 3 (some .int) 0 false sL_126 [] [1576, 95] = true := by decide +kernel
theorem sC_126 : sx_chkL s_cl s_tf s_nt s_zs s_ks s_mt s_ex s_exn ⟨"GuardNetModel", "leaf", "()I"⟩ prog_14_method_17_code false [] sL_126 = true := by decide +kernel
/-- GuardNetModel.cell(I)I -/
theorem sK_127 : sx_chkM 80 s_ex s_nc s_hn ⟨"GuardNetModel", "cell", "(I)I"⟩ prog_14_method_15_code 2 (some .int) 1 false sL_127 [] [1580, 95] = true := by decide +kernel
theorem sC_127 : sx_chkL s_cl s_tf s_nt s_zs s_ks s_mt s_ex s_exn ⟨"GuardNetModel", "cell", "(I)I"⟩ prog_14_method_15_code false [] sL_127 = true := by decide +kernel
/-- GuardNetModel.number(I)I -/
theorem sK_128 : sx_chkM 80 s_ex s_nc s_hn ⟨"GuardNetModel", "number", "(I)I"⟩ prog_14_method_16_code 3 (some .int) 1 false sL_128 [] [1584, 95] = true := by decide +kernel
theorem sC_128 : sx_chkL s_cl s_tf s_nt s_zs s_ks s_mt s_ex s_exn ⟨"GuardNetModel", "number", "(I)I"⟩ prog_14_method_16_code false [] sL_128 = true := by decide +kernel
/-- GuardNetModel.hang(II)V -/
theorem sK_129 : sx_chkM 80 s_ex s_nc s_hn ⟨"GuardNetModel", "hang", "(II)V"⟩ prog_14_method_19_code 4 none 2 false sL_129 [] [1588, 95] = true := by decide +kernel
theorem sC_129 : sx_chkL s_cl s_tf s_nt s_zs s_ks s_mt s_ex s_exn ⟨"GuardNetModel", "hang", "(II)V"⟩ prog_14_method_19_code false [] sL_129 = true := by decide +kernel
/-- GuardNetModel.put(IIIIII)V -/
theorem sK_130 : sx_chkM 80 s_ex s_nc s_hn ⟨"GuardNetModel", "put", "(IIIIII)V"⟩ prog_14_method_28_code 8 none 6 false sL_130 [] [1592, 95] = true := by decide +kernel
theorem sC_130 : sx_chkL s_cl s_tf s_nt s_zs s_ks s_mt s_ex s_exn ⟨"GuardNetModel", "put", "(IIIIII)V"⟩ prog_14_method_28_code false [] sL_130 = true := by decide +kernel
/-- GuardNetModel.inRows()I -/
theorem sK_131 : sx_chkM 80 s_ex s_nc s_hn ⟨"GuardNetModel", "inRows", "()I"⟩ prog_14_method_26_code 1 (some .int) 0 false sL_131 [] [1596, 95] = true := by decide +kernel
theorem sC_131 : sx_chkL s_cl s_tf s_nt s_zs s_ks s_mt s_ex s_exn ⟨"GuardNetModel", "inRows", "()I"⟩ prog_14_method_26_code false [] sL_131 = true := by decide +kernel
/-- GuardNetModel.enter(I)V -/
theorem sK_132 : sx_chkM 80 s_ex s_nc s_hn ⟨"GuardNetModel", "enter", "(I)V"⟩ prog_14_method_27_code 3 none 1 false sL_132 [] [1600, 95] = true := by decide +kernel
theorem sC_132 : sx_chkL s_cl s_tf s_nt s_zs s_ks s_mt s_ex s_exn ⟨"GuardNetModel", "enter", "(I)V"⟩ prog_14_method_27_code false [] sL_132 = true := by decide +kernel
/-- GuardNetModel.run(I)I -/
theorem sK_133 : sx_chkM 80 s_ex s_nc s_hn ⟨"GuardNetModel", "run", "(I)I"⟩ prog_14_method_46_code 3 (some .int) 1 false sL_133 [] [1604, 95] = true := by decide +kernel
theorem sC_133 : sx_chkL s_cl s_tf s_nt s_zs s_ks s_mt s_ex s_exn ⟨"GuardNetModel", "run", "(I)I"⟩ prog_14_method_46_code false [] sL_133 = true := by decide +kernel
/-- GuardNetModel.step()V -/
theorem sK_134 : sx_chkM 80 s_ex s_nc s_hn ⟨"GuardNetModel", "step", "()V"⟩ prog_14_method_45_code 4 none 0 false sL_134 [] [1608, 95] = true := by decide +kernel
theorem sC_134 : sx_chkL s_cl s_tf s_nt s_zs s_ks s_mt s_ex s_exn ⟨"GuardNetModel", "step", "()V"⟩ prog_14_method_45_code false [] sL_134 = true := by decide +kernel
/-- GuardNetModel.call(I)V -/
theorem sK_135 : sx_chkM 80 s_ex s_nc s_hn ⟨"GuardNetModel", "call", "(I)V"⟩ prog_14_method_43_code 7 none 1 false sL_135 [] [1612, 95] = true := by decide +kernel
theorem sC_135 : sx_chkL s_cl s_tf s_nt s_zs s_ks s_mt s_ex s_exn ⟨"GuardNetModel", "call", "(I)V"⟩ prog_14_method_43_code false [] sL_135 = true := by decide +kernel
/-- GuardNetModel.value(I)I -/
theorem sK_136 : sx_chkM 80 s_ex s_nc s_hn ⟨"GuardNetModel", "value", "(I)I"⟩ prog_14_method_20_code 3 (some .int) 1 false sL_136 [] [1616, 95] = true := by decide +kernel
theorem sC_136 : sx_chkL s_cl s_tf s_nt s_zs s_ks s_mt s_ex s_exn ⟨"GuardNetModel", "value", "(I)I"⟩ prog_14_method_20_code false [] sL_136 = true := by decide +kernel
/-- GuardNetModel.fits(II)Z -/
theorem sK_137 : sx_chkM 80 s_ex s_nc s_hn ⟨"GuardNetModel", "fits", "(II)Z"⟩ prog_14_method_36_code 7 (some .boolean) 2 false sL_137 [] [1620, 95] = true := by decide +kernel
theorem sC_137 : sx_chkL s_cl s_tf s_nt s_zs s_ks s_mt s_ex s_exn ⟨"GuardNetModel", "fits", "(II)Z"⟩ prog_14_method_36_code false [] sL_137 = true := by decide +kernel
/-- GuardNetModel.tried(II)I -/
theorem sK_138 : sx_chkM 80 s_ex s_nc s_hn ⟨"GuardNetModel", "tried", "(II)I"⟩ prog_14_method_42_code 5 (some .int) 2 false sL_138 [] [1624, 95] = true := by decide +kernel
theorem sC_138 : sx_chkL s_cl s_tf s_nt s_zs s_ks s_mt s_ex s_exn ⟨"GuardNetModel", "tried", "(II)I"⟩ prog_14_method_42_code false [] sL_138 = true := by decide +kernel
/-- GuardNetModel.match(I)I -/
theorem sK_139 : sx_chkM 80 s_ex s_nc s_hn ⟨"GuardNetModel", "match", "(I)I"⟩ prog_14_method_39_code 6 (some .int) 1 false sL_139 [] [1628, 95] = true := by decide +kernel
theorem sC_139 : sx_chkL s_cl s_tf s_nt s_zs s_ks s_mt s_ex s_exn ⟨"GuardNetModel", "match", "(I)I"⟩ prog_14_method_39_code false [] sL_139 = true := by decide +kernel
/-- GuardNetModel.matchOne(I)I -/
theorem sK_140 : sx_chkM 80 s_ex s_nc s_hn ⟨"GuardNetModel", "matchOne", "(I)I"⟩ prog_14_method_37_code 5 (some .int) 1 false sL_140 [] [1632, 95] = true := by decide +kernel
theorem sC_140 : sx_chkL s_cl s_tf s_nt s_zs s_ks s_mt s_ex s_exn ⟨"GuardNetModel", "matchOne", "(I)I"⟩ prog_14_method_37_code false [] sL_140 = true := by decide +kernel
/-- GuardNetModel.alike(II)I -/
theorem sK_141 : sx_chkM 80 s_ex s_nc s_hn ⟨"GuardNetModel", "alike", "(II)I"⟩ prog_14_method_24_code 5 (some .int) 2 false sL_141 [] [1636, 95] = true := by decide +kernel
theorem sC_141 : sx_chkL s_cl s_tf s_nt s_zs s_ks s_mt s_ex s_exn ⟨"GuardNetModel", "alike", "(II)I"⟩ prog_14_method_24_code false [] sL_141 = true := by decide +kernel
/-- GuardNetModel.pair(II)V -/
theorem sK_142 : sx_chkM 80 s_ex s_nc s_hn ⟨"GuardNetModel", "pair", "(II)V"⟩ prog_14_method_23_code 3 none 2 false sL_142 [] [1640, 95] = true := by decide +kernel
theorem sC_142 : sx_chkL s_cl s_tf s_nt s_zs s_ks s_mt s_ex s_exn ⟨"GuardNetModel", "pair", "(II)V"⟩ prog_14_method_23_code false [] sL_142 = true := by decide +kernel
/-- GuardNetModel.open(II)Z -/
theorem sK_143 : sx_chkM 80 s_ex s_nc s_hn ⟨"GuardNetModel", "open", "(II)Z"⟩ prog_14_method_25_code 4 (some .boolean) 2 false sL_143 [] [1645, 95] = true := by decide +kernel
theorem sC_143 : sx_chkL s_cl s_tf s_nt s_zs s_ks s_mt s_ex s_exn ⟨"GuardNetModel", "open", "(II)Z"⟩ prog_14_method_25_code false [] sL_143 = true := by decide +kernel
/-- GuardNetModel.isNumber(I)Z -/
theorem sK_144 : sx_chkM 80 s_ex s_nc s_hn ⟨"GuardNetModel", "isNumber", "(I)Z"⟩ prog_14_method_21_code 2 (some .boolean) 1 false sL_144 [] [1649, 95] = true := by decide +kernel
theorem sC_144 : sx_chkL s_cl s_tf s_nt s_zs s_ks s_mt s_ex s_exn ⟨"GuardNetModel", "isNumber", "(I)Z"⟩ prog_14_method_21_code false [] sL_144 = true := by decide +kernel
/-- GuardNetModel.arity(I)I -/
theorem sK_145 : sx_chkM 80 s_ex s_nc s_hn ⟨"GuardNetModel", "arity", "(I)I"⟩ prog_14_method_38_code 6 (some .int) 1 false sL_145 [] [1653, 95] = true := by decide +kernel
theorem sC_145 : sx_chkL s_cl s_tf s_nt s_zs s_ks s_mt s_ex s_exn ⟨"GuardNetModel", "arity", "(I)I"⟩ prog_14_method_38_code false [] sL_145 = true := by decide +kernel
/-- GuardNetModel.guard()I -/
theorem sK_146 : sx_chkM 80 s_ex s_nc s_hn ⟨"GuardNetModel", "guard", "()I"⟩ prog_14_method_41_code 6 (some .int) 0 false sL_146 [] [1657, 95] = true := by decide +kernel
theorem sC_146 : sx_chkL s_cl s_tf s_nt s_zs s_ks s_mt s_ex s_exn ⟨"GuardNetModel", "guard", "()I"⟩ prog_14_method_41_code false [] sL_146 = true := by decide +kernel
/-- GuardNetModel.unmet()Z -/
theorem sK_147 : sx_chkM 80 s_ex s_nc s_hn ⟨"GuardNetModel", "unmet", "()Z"⟩ prog_14_method_40_code 4 (some .boolean) 0 false sL_147 [] [1661, 95] = true := by decide +kernel
theorem sC_147 : sx_chkL s_cl s_tf s_nt s_zs s_ks s_mt s_ex s_exn ⟨"GuardNetModel", "unmet", "()Z"⟩ prog_14_method_40_code false [] sL_147 = true := by decide +kernel
/-- GuardNetModel.find(I)V -/
theorem sK_148 : sx_chkM 80 s_ex s_nc s_hn ⟨"GuardNetModel", "find", "(I)V"⟩ prog_14_method_30_code 3 none 1 false sL_148 [] [1665, 95] = true := by decide +kernel
theorem sC_148 : sx_chkL s_cl s_tf s_nt s_zs s_ks s_mt s_ex s_exn ⟨"GuardNetModel", "find", "(I)V"⟩ prog_14_method_30_code false [] sL_148 = true := by decide +kernel
/-- GuardNetModel.sleep(I)V -/
theorem sK_149 : sx_chkM 80 s_ex s_nc s_hn ⟨"GuardNetModel", "sleep", "(I)V"⟩ prog_14_method_31_code 3 none 1 false sL_149 [] [1669, 95] = true := by decide +kernel
theorem sC_149 : sx_chkL s_cl s_tf s_nt s_zs s_ks s_mt s_ex s_exn ⟨"GuardNetModel", "sleep", "(I)V"⟩ prog_14_method_31_code false [] sL_149 = true := by decide +kernel
/-- GuardNetModel.reckon(I)V -/
theorem sK_150 : sx_chkM 80 s_ex s_nc s_hn ⟨"GuardNetModel", "reckon", "(I)V"⟩ prog_14_method_35_code 7 none 1 false sL_150 [] [1673, 95] = true := by decide +kernel
theorem sC_150 : sx_chkL s_cl s_tf s_nt s_zs s_ks s_mt s_ex s_exn ⟨"GuardNetModel", "reckon", "(I)V"⟩ prog_14_method_35_code false [] sL_150 = true := by decide +kernel
/-- GuardNetModel.same(II)I -/
theorem sK_151 : sx_chkM 80 s_ex s_nc s_hn ⟨"GuardNetModel", "same", "(II)I"⟩ prog_14_method_34_code 5 (some .int) 2 false sL_151 [] [1677, 95] = true := by decide +kernel
theorem sC_151 : sx_chkL s_cl s_tf s_nt s_zs s_ks s_mt s_ex s_exn ⟨"GuardNetModel", "same", "(II)I"⟩ prog_14_method_34_code false [] sL_151 = true := by decide +kernel
/-- GuardNetModel.write(II)V -/
theorem sK_152 : sx_chkM 80 s_ex s_nc s_hn ⟨"GuardNetModel", "write", "(II)V"⟩ prog_14_method_33_code 5 none 2 false sL_152 [] [1681, 95] = true := by decide +kernel
theorem sC_152 : sx_chkL s_cl s_tf s_nt s_zs s_ks s_mt s_ex s_exn ⟨"GuardNetModel", "write", "(II)V"⟩ prog_14_method_33_code false [] sL_152 = true := by decide +kernel
/-- GuardNetModel.sleepsOn(II)Z -/
theorem sK_153 : sx_chkM 80 s_ex s_nc s_hn ⟨"GuardNetModel", "sleepsOn", "(II)Z"⟩ prog_14_method_32_code 4 (some .boolean) 2 false sL_153 [] [1685, 95] = true := by decide +kernel
theorem sC_153 : sx_chkL s_cl s_tf s_nt s_zs s_ks s_mt s_ex s_exn ⟨"GuardNetModel", "sleepsOn", "(II)Z"⟩ prog_14_method_32_code false [] sL_153 = true := by decide +kernel
/-- GuardNetModel.letter(II)I -/
theorem sK_154 : sx_chkM 80 s_ex s_nc s_hn ⟨"GuardNetModel", "letter", "(II)I"⟩ prog_14_method_50_code 3 (some .int) 2 false sL_154 [] [1689, 95] = true := by decide +kernel
theorem sC_154 : sx_chkL s_cl s_tf s_nt s_zs s_ks s_mt s_ex s_exn ⟨"GuardNetModel", "letter", "(II)I"⟩ prog_14_method_50_code false [] sL_154 = true := by decide +kernel
/-- GuardNetModel.writeTerm(I)V -/
theorem sK_155 : sx_chkM 80 s_ex s_nc s_hn ⟨"GuardNetModel", "writeTerm", "(I)V"⟩ prog_14_method_49_code 5 none 1 false sL_155 [] [1693, 95] = true := by decide +kernel
theorem sC_155 : sx_chkL s_cl s_tf s_nt s_zs s_ks s_mt s_ex s_exn ⟨"GuardNetModel", "writeTerm", "(I)V"⟩ prog_14_method_49_code false [] sL_155 = true := by decide +kernel
/-- GuardNetModel.write(I)V -/
theorem sK_156 : sx_chkM 80 s_ex s_nc s_hn ⟨"GuardNetModel", "write", "(I)V"⟩ prog_14_method_47_code 2 none 1 false sL_156 [] [1698, 95] = true := by decide +kernel
theorem sC_156 : sx_chkL s_cl s_tf s_nt s_zs s_ks s_mt s_ex s_exn ⟨"GuardNetModel", "write", "(I)V"⟩ prog_14_method_47_code false [] sL_156 = true := by decide +kernel
/-- GuardNetModel.writeNumber(I)V -/
theorem sK_157 : sx_chkM 80 s_ex s_nc s_hn ⟨"GuardNetModel", "writeNumber", "(I)V"⟩ prog_14_method_48_code 6 none 1 false sL_157 [] [1702, 95] = true := by decide +kernel
theorem sC_157 : sx_chkL s_cl s_tf s_nt s_zs s_ks s_mt s_ex s_exn ⟨"GuardNetModel", "writeNumber", "(I)V"⟩ prog_14_method_48_code false [] sL_157 = true := by decide +kernel
/-- GuardNetModel.sleeping(I)I -/
theorem sK_158 : sx_chkM 80 s_ex s_nc s_hn ⟨"GuardNetModel", "sleeping", "(I)I"⟩ prog_14_method_51_code 5 (some .int) 1 false sL_158 [] [1710, 95] = true := by decide +kernel
theorem sC_158 : sx_chkL s_cl s_tf s_nt s_zs s_ks s_mt s_ex s_exn ⟨"GuardNetModel", "sleeping", "(I)I"⟩ prog_14_method_51_code false [] sL_158 = true := by decide +kernel
/-- GuardNetModel.count(I)I -/
theorem sK_159 : sx_chkM 80 s_ex s_nc s_hn ⟨"GuardNetModel", "count", "(I)I"⟩ prog_14_method_52_code 2 (some .int) 1 false sL_159 [] [1714, 95] = true := by decide +kernel
theorem sC_159 : sx_chkL s_cl s_tf s_nt s_zs s_ks s_mt s_ex s_exn ⟨"GuardNetModel", "count", "(I)I"⟩ prog_14_method_52_code false [] sL_159 = true := by decide +kernel
/-- java/util/ArrayList.<init>()V -/
theorem sK_160 : sx_chkM 80 s_ex s_nc s_hn ⟨"java/util/ArrayList", "<init>", "()V"⟩ prog_34_method_2_code 1 none 0 true sL_160 [] [145, 85] = true := by decide +kernel
theorem sC_160 : sx_chkL s_cl s_tf s_nt s_zs s_ks s_mt s_ex s_exn ⟨"java/util/ArrayList", "<init>", "()V"⟩ prog_34_method_2_code true [] sL_160 = true := by decide +kernel
/-- java/util/AbstractList.<init>()V -/
theorem sK_161 : sx_chkM 80 s_ex s_nc s_hn ⟨"java/util/AbstractList", "<init>", "()V"⟩ prog_33_method_1_code 1 none 0 true sL_161 [] [148, 84] = true := by decide +kernel
theorem sC_161 : sx_chkL s_cl s_tf s_nt s_zs s_ks s_mt s_ex s_exn ⟨"java/util/AbstractList", "<init>", "()V"⟩ prog_33_method_1_code true [] sL_161 = true := by decide +kernel
/-- java/util/AbstractCollection.<init>()V -/
theorem sK_162 : sx_chkM 80 s_ex s_nc s_hn ⟨"java/util/AbstractCollection", "<init>", "()V"⟩ prog_32_method_1_code 1 none 0 true sL_162 [] [151, 83] = true := by decide +kernel
theorem sC_162 : sx_chkL s_cl s_tf s_nt s_zs s_ks s_mt s_ex s_exn ⟨"java/util/AbstractCollection", "<init>", "()V"⟩ prog_32_method_1_code true [] sL_162 = true := by decide +kernel
/-- java/lang/StringBuilder.<init>()V -/
theorem sK_163 : sx_chkM 80 s_ex s_nc s_hn ⟨"java/lang/StringBuilder", "<init>", "()V"⟩ prog_26_method_1_code 1 none 0 true sL_163 [] [289, 92] = true := by decide +kernel
theorem sC_163 : sx_chkL s_cl s_tf s_nt s_zs s_ks s_mt s_ex s_exn ⟨"java/lang/StringBuilder", "<init>", "()V"⟩ prog_26_method_1_code true [] sL_163 = true := by decide +kernel
/-- java/lang/AbstractStringBuilder.<init>(I)V -/
theorem sK_164 : sx_chkM 80 s_ex s_nc s_hn ⟨"java/lang/AbstractStringBuilder", "<init>", "(I)V"⟩ prog_16_method_2_code 2 none 1 true sL_164 [] [292, 91] = true := by decide +kernel
theorem sC_164 : sx_chkL s_cl s_tf s_nt s_zs s_ks s_mt s_ex s_exn ⟨"java/lang/AbstractStringBuilder", "<init>", "(I)V"⟩ prog_16_method_2_code true [] sL_164 = true := by decide +kernel
/-- java/util/ArrayList.size()I -/
theorem sK_165 : sx_chkM 80 s_ex s_nc s_hn ⟨"java/util/ArrayList", "size", "()I"⟩ prog_34_method_8_code 1 (some .int) 0 false sL_165 [] [344, 85] = true := by decide +kernel
theorem sC_165 : sx_chkL s_cl s_tf s_nt s_zs s_ks s_mt s_ex s_exn ⟨"java/util/ArrayList", "size", "()I"⟩ prog_34_method_8_code false [] sL_165 = true := by decide +kernel
/-- java/util/ArrayList.add(Ljava/lang/Object;)Z -/
theorem sK_166 : sx_chkM 80 s_ex s_nc s_hn ⟨"java/util/ArrayList", "add", "(Ljava/lang/Object;)Z"⟩ prog_34_method_25_code 2 (some .boolean) 1 false sL_166 [] [628, 85] = true := by decide +kernel
theorem sC_166 : sx_chkL s_cl s_tf s_nt s_zs s_ks s_mt s_ex s_exn ⟨"java/util/ArrayList", "add", "(Ljava/lang/Object;)Z"⟩ prog_34_method_25_code false [] sL_166 = true := by decide +kernel
/-- java/util/ArrayList.add(Ljava/lang/Object;[Ljava/lang/Object;I)V -/
theorem sK_167 : sx_chkM 80 s_ex s_nc s_hn ⟨"java/util/ArrayList", "add", "(Ljava/lang/Object;[Ljava/lang/Object;I)V"⟩ prog_34_method_24_code 4 none 3 false sL_167 [] [632, 85] = true := by decide +kernel
theorem sC_167 : sx_chkL s_cl s_tf s_nt s_zs s_ks s_mt s_ex s_exn ⟨"java/util/ArrayList", "add", "(Ljava/lang/Object;[Ljava/lang/Object;I)V"⟩ prog_34_method_24_code false [] sL_167 = true := by decide +kernel
/-- java/util/ArrayList.grow()[Ljava/lang/Object; -/
theorem sK_168 : sx_chkM 80 s_ex s_nc s_hn ⟨"java/util/ArrayList", "grow", "()[Ljava/lang/Object;"⟩ prog_34_method_7_code 1 (some (.array (.object "java/lang/Object"))) 0 false sL_168 [] [636, 85] = true := by decide +kernel
theorem sC_168 : sx_chkL s_cl s_tf s_nt s_zs s_ks s_mt s_ex s_exn ⟨"java/util/ArrayList", "grow", "()[Ljava/lang/Object;"⟩ prog_34_method_7_code false [] sL_168 = true := by decide +kernel
/-- java/util/ArrayList.grow(I)[Ljava/lang/Object; -/
theorem sK_169 : sx_chkM 80 s_ex s_nc s_hn ⟨"java/util/ArrayList", "grow", "(I)[Ljava/lang/Object;"⟩ prog_34_method_6_code 4 (some (.array (.object "java/lang/Object"))) 1 false sL_169 [] [640, 85] = true := by decide +kernel
theorem sC_169 : sx_chkL s_cl s_tf s_nt s_zs s_ks s_mt s_ex s_exn ⟨"java/util/ArrayList", "grow", "(I)[Ljava/lang/Object;"⟩ prog_34_method_6_code false [] sL_169 = true := by decide +kernel
/-- jdk/internal/util/ArraysSupport.newLength(III)I -/
theorem sK_170 : sx_chkM 80 s_ex s_nc s_hn ⟨"jdk/internal/util/ArraysSupport", "newLength", "(III)I"⟩ prog_42_method_27_code 4 (some .int) 3 false sL_170 [] [643, 104] = true := by decide +kernel
theorem sC_170 : sx_chkL s_cl s_tf s_nt s_zs s_ks s_mt s_ex s_exn ⟨"jdk/internal/util/ArraysSupport", "newLength", "(III)I"⟩ prog_42_method_27_code false [] sL_170 = true := by decide +kernel
/-- java/lang/Math.max(II)I -/
theorem sK_171 : sx_chkM 80 s_ex s_nc s_hn ⟨"java/lang/Math", "max", "(II)I"⟩ prog_23_method_65_code 2 (some .int) 2 false sL_171 [] [646, 105] = true := by decide +kernel
theorem sC_171 : sx_chkL s_cl s_tf s_nt s_zs s_ks s_mt s_ex s_exn ⟨"java/lang/Math", "max", "(II)I"⟩ prog_23_method_65_code false [] sL_171 = true := by decide +kernel
/-- java/util/Arrays.copyOf([Ljava/lang/Object;I)[Ljava/lang/Object; -/
theorem sK_172 : sx_chkM 80 s_ex s_nc s_hn ⟨"java/util/Arrays", "copyOf", "([Ljava/lang/Object;I)[Ljava/lang/Object;"⟩ prog_35_method_119_code 2 (some (.array (.object "java/lang/Object"))) 2 false sL_172 [] [653, 106] = true := by decide +kernel
theorem sC_172 : sx_chkL s_cl s_tf s_nt s_zs s_ks s_mt s_ex s_exn ⟨"java/util/Arrays", "copyOf", "([Ljava/lang/Object;I)[Ljava/lang/Object;"⟩ prog_35_method_119_code false [] sL_172 = true := by decide +kernel
/-- java/util/Arrays.copyOf([Ljava/lang/Object;ILjava/lang/Class;)[Ljava/lang/Object; -/
theorem sK_173 : sx_chkM 80 s_ex s_nc s_hn ⟨"java/util/Arrays", "copyOf", "([Ljava/lang/Object;ILjava/lang/Class;)[Ljava/lang/Object;"⟩ prog_35_method_120_code 4 (some (.array (.object "java/lang/Object"))) 3 false sL_173 [] [680, 106] = true := by decide +kernel
theorem sC_173 : sx_chkL s_cl s_tf s_nt s_zs s_ks s_mt s_ex s_exn ⟨"java/util/Arrays", "copyOf", "([Ljava/lang/Object;ILjava/lang/Class;)[Ljava/lang/Object;"⟩ prog_35_method_120_code false [] sL_173 = true := by decide +kernel
/-- java/lang/Math.min(II)I -/
theorem sK_174 : sx_chkM 80 s_ex s_nc s_hn ⟨"java/lang/Math", "min", "(II)I"⟩ prog_23_method_69_code 2 (some .int) 2 false sL_174 [] [686, 105] = true := by decide +kernel
theorem sC_174 : sx_chkL s_cl s_tf s_nt s_zs s_ks s_mt s_ex s_exn ⟨"java/lang/Math", "min", "(II)I"⟩ prog_23_method_69_code false [] sL_174 = true := by decide +kernel
/-- java/util/ArrayList.remove(I)Ljava/lang/Object; -/
theorem sK_175 : sx_chkM 80 s_ex s_nc s_hn ⟨"java/util/ArrayList", "remove", "(I)Ljava/lang/Object;"⟩ prog_34_method_29_code 4 (some (.object "java/lang/Object")) 1 false sL_175 [] [707, 85] = true := by decide +kernel
theorem sC_175 : sx_chkL s_cl s_tf s_nt s_zs s_ks s_mt s_ex s_exn ⟨"java/util/ArrayList", "remove", "(I)Ljava/lang/Object;"⟩ prog_34_method_29_code false [] sL_175 = true := by decide +kernel
/-- java/util/Objects.checkIndex(II)I -/
theorem sK_176 : sx_chkM 80 s_ex s_nc s_hn ⟨"java/util/Objects", "checkIndex", "(II)I"⟩ prog_39_method_17_code 2 (some .int) 2 false sL_176 [] [710, 108] = true := by decide +kernel
theorem sC_176 : sx_chkL s_cl s_tf s_nt s_zs s_ks s_mt s_ex s_exn ⟨"java/util/Objects", "checkIndex", "(II)I"⟩ prog_39_method_17_code false [] sL_176 = true := by decide +kernel
/-- jdk/internal/util/Preconditions.checkIndex(IILjava/util/function/BiFunction;)I -/
theorem sK_177 : sx_chkM 80 s_ex s_nc s_hn ⟨"jdk/internal/util/Preconditions", "checkIndex", "(IILjava/util/function/BiFunction;)I"⟩ prog_43_method_11_code 3 (some .int) 3 false sL_177 [] [713, 109] = true := by decide +kernel
theorem sC_177 : sx_chkL s_cl s_tf s_nt s_zs s_ks s_mt s_ex s_exn ⟨"jdk/internal/util/Preconditions", "checkIndex", "(IILjava/util/function/BiFunction;)I"⟩ prog_43_method_11_code false [] sL_177 = true := by decide +kernel
/-- java/util/ArrayList.fastRemove([Ljava/lang/Object;I)V -/
theorem sK_178 : sx_chkM 80 s_ex s_nc s_hn ⟨"java/util/ArrayList", "fastRemove", "([Ljava/lang/Object;I)V"⟩ prog_34_method_39_code 4 none 2 false sL_178 [] [717, 85] = true := by decide +kernel
theorem sC_178 : sx_chkL s_cl s_tf s_nt s_zs s_ks s_mt s_ex s_exn ⟨"java/util/ArrayList", "fastRemove", "([Ljava/lang/Object;I)V"⟩ prog_34_method_39_code false [] sL_178 = true := by decide +kernel
/-- java/util/ArrayList.get(I)Ljava/lang/Object; -/
theorem sK_179 : sx_chkM 80 s_ex s_nc s_hn ⟨"java/util/ArrayList", "get", "(I)Ljava/lang/Object;"⟩ prog_34_method_20_code 2 (some (.object "java/lang/Object")) 1 false sL_179 [] [764, 85] = true := by decide +kernel
theorem sC_179 : sx_chkL s_cl s_tf s_nt s_zs s_ks s_mt s_ex s_exn ⟨"java/util/ArrayList", "get", "(I)Ljava/lang/Object;"⟩ prog_34_method_20_code false [] sL_179 = true := by decide +kernel
/-- java/util/ArrayList.elementData(I)Ljava/lang/Object; -/
theorem sK_180 : sx_chkM 80 s_ex s_nc s_hn ⟨"java/util/ArrayList", "elementData", "(I)Ljava/lang/Object;"⟩ prog_34_method_18_code 2 (some (.object "java/lang/Object")) 1 false sL_180 [] [768, 85] = true := by decide +kernel
theorem sC_180 : sx_chkL s_cl s_tf s_nt s_zs s_ks s_mt s_ex s_exn ⟨"java/util/ArrayList", "elementData", "(I)Ljava/lang/Object;"⟩ prog_34_method_18_code false [] sL_180 = true := by decide +kernel
/-- java/lang/StringBuilder.setLength(I)V -/
theorem sK_181 : sx_chkM 80 s_ex s_nc s_hn ⟨"java/lang/StringBuilder", "setLength", "(I)V"⟩ prog_26_method_89_code 2 none 1 false sL_181 [] [1079, 92] = true := by decide +kernel
theorem sC_181 : sx_chkL s_cl s_tf s_nt s_zs s_ks s_mt s_ex s_exn ⟨"java/lang/StringBuilder", "setLength", "(I)V"⟩ prog_26_method_89_code false [] sL_181 = true := by decide +kernel
/-- java/lang/AbstractStringBuilder.setLength(I)V -/
theorem sK_182 : sx_chkM 80 s_ex s_nc s_hn ⟨"java/lang/AbstractStringBuilder", "setLength", "(I)V"⟩ prog_16_method_13_code 2 none 1 false sL_182 [] [1082, 91] = true := by decide +kernel
theorem sC_182 : sx_chkL s_cl s_tf s_nt s_zs s_ks s_mt s_ex s_exn ⟨"java/lang/AbstractStringBuilder", "setLength", "(I)V"⟩ prog_16_method_13_code false [] sL_182 = true := by decide +kernel
/-- java/lang/AbstractStringBuilder.ensureCapacityInternal(I)V -/
theorem sK_183 : sx_chkM 80 s_ex s_nc s_hn ⟨"java/lang/AbstractStringBuilder", "ensureCapacityInternal", "(I)V"⟩ prog_16_method_9_code 3 none 1 false sL_183 [] [1086, 91] = true := by decide +kernel
theorem sC_183 : sx_chkL s_cl s_tf s_nt s_zs s_ks s_mt s_ex s_exn ⟨"java/lang/AbstractStringBuilder", "ensureCapacityInternal", "(I)V"⟩ prog_16_method_9_code false [] sL_183 = true := by decide +kernel
/-- java/lang/AbstractStringBuilder.newCapacity(I)I -/
theorem sK_184 : sx_chkM 80 s_ex s_nc s_hn ⟨"java/lang/AbstractStringBuilder", "newCapacity", "(I)I"⟩ prog_16_method_10_code 6 (some .int) 1 false sL_184 [] [1090, 91] = true := by decide +kernel
theorem sC_184 : sx_chkL s_cl s_tf s_nt s_zs s_ks s_mt s_ex s_exn ⟨"java/lang/AbstractStringBuilder", "newCapacity", "(I)I"⟩ prog_16_method_10_code false [] sL_184 = true := by decide +kernel
/-- java/util/Arrays.copyOf([BI)[B -/
theorem sK_185 : sx_chkM 80 s_ex s_nc s_hn ⟨"java/util/Arrays", "copyOf", "([BI)[B"⟩ prog_35_method_121_code 3 (some (.array .byte)) 2 false sL_185 [] [1095, 106] = true := by decide +kernel
theorem sC_185 : sx_chkL s_cl s_tf s_nt s_zs s_ks s_mt s_ex s_exn ⟨"java/util/Arrays", "copyOf", "([BI)[B"⟩ prog_35_method_121_code false [] sL_185 = true := by decide +kernel
/-- java/lang/AbstractStringBuilder.isLatin1()Z -/
theorem sK_186 : sx_chkM 80 s_ex s_nc s_hn ⟨"java/lang/AbstractStringBuilder", "isLatin1", "()Z"⟩ prog_16_method_68_code 1 (some .boolean) 0 false sL_186 [] [1107, 91] = true := by decide +kernel
theorem sC_186 : sx_chkL s_cl s_tf s_nt s_zs s_ks s_mt s_ex s_exn ⟨"java/lang/AbstractStringBuilder", "isLatin1", "()Z"⟩ prog_16_method_68_code false [] sL_186 = true := by decide +kernel
/-- java/lang/StringLatin1.fillNull([BII)V -/
theorem sK_187 : sx_chkM 80 s_ex s_nc s_hn ⟨"java/lang/StringLatin1", "fillNull", "([BII)V"⟩ prog_27_method_48_code 3 none 3 false sL_187 [] [1110, 114] = true := by decide +kernel
theorem sC_187 : sx_chkL s_cl s_tf s_nt s_zs s_ks s_mt s_ex s_exn ⟨"java/lang/StringLatin1", "fillNull", "([BII)V"⟩ prog_27_method_48_code false [] sL_187 = true := by decide +kernel
/-- java/util/Arrays.fill([BIIB)V -/
theorem sK_188 : sx_chkM 80 s_ex s_nc s_hn ⟨"java/util/Arrays", "fill", "([BIIB)V"⟩ prog_35_method_110_code 5 none 4 false sL_188 [] [1113, 106] = true := by decide +kernel
theorem sC_188 : sx_chkL s_cl s_tf s_nt s_zs s_ks s_mt s_ex s_exn ⟨"java/util/Arrays", "fill", "([BIIB)V"⟩ prog_35_method_110_code false [] sL_188 = true := by decide +kernel
/-- java/util/Arrays.rangeCheck(III)V -/
theorem sK_189 : sx_chkM 80 s_ex s_nc s_hn ⟨"java/util/Arrays", "rangeCheck", "(III)V"⟩ prog_35_method_30_code 3 none 3 false sL_189 [] [1116, 106] = true := by decide +kernel
theorem sC_189 : sx_chkL s_cl s_tf s_nt s_zs s_ks s_mt s_ex s_exn ⟨"java/util/Arrays", "rangeCheck", "(III)V"⟩ prog_35_method_30_code false [] sL_189 = true := by decide +kernel
/-- java/lang/StringBuilder.append(I)Ljava/lang/StringBuilder; -/
theorem sK_190 : sx_chkM 80 s_ex s_nc s_hn ⟨"java/lang/StringBuilder", "append", "(I)Ljava/lang/StringBuilder;"⟩ prog_26_method_15_code 2 (some (.object "java/lang/StringBuilder")) 1 false sL_190 [] [1204, 92] = true := by decide +kernel
theorem sC_190 : sx_chkL s_cl s_tf s_nt s_zs s_ks s_mt s_ex s_exn ⟨"java/lang/StringBuilder", "append", "(I)Ljava/lang/StringBuilder;"⟩ prog_26_method_15_code false [] sL_190 = true := by decide +kernel
/-- java/lang/AbstractStringBuilder.append(I)Ljava/lang/AbstractStringBuilder; -/
theorem sK_191 : sx_chkM 80 s_ex s_nc s_hn ⟨"java/lang/AbstractStringBuilder", "append", "(I)Ljava/lang/AbstractStringBuilder;"⟩ prog_16_method_32_code 4 (some (.object "java/lang/AbstractStringBuilder")) 1 false sL_191 [] [1207, 91] = true := by decide +kernel
theorem sC_191 : sx_chkL s_cl s_tf s_nt s_zs s_ks s_mt s_ex s_exn ⟨"java/lang/AbstractStringBuilder", "append", "(I)Ljava/lang/AbstractStringBuilder;"⟩ prog_16_method_32_code false [] sL_191 = true := by decide +kernel
/-- java/lang/Integer.stringSize(I)I -/
theorem sK_192 : sx_chkM 80 s_ex s_nc s_hn ⟨"java/lang/Integer", "stringSize", "(I)I"⟩ prog_21_method_13_code 4 (some .int) 1 false sL_192 [] [1210, 115] = true := by decide +kernel
theorem sC_192 : sx_chkL s_cl s_tf s_nt s_zs s_ks s_mt s_ex s_exn ⟨"java/lang/Integer", "stringSize", "(I)I"⟩ prog_21_method_13_code false [] sL_192 = true := by decide +kernel
/-- java/lang/Integer.getChars(II[B)I -/
theorem sK_193 : sx_chkM 80 s_ex s_nc s_hn ⟨"java/lang/Integer", "getChars", "(II[B)I"⟩ prog_21_method_12_code 7 (some .int) 3 false sL_193 [] [1213, 115] = true := by decide +kernel
theorem sC_193 : sx_chkL s_cl s_tf s_nt s_zs s_ks s_mt s_ex s_exn ⟨"java/lang/Integer", "getChars", "(II[B)I"⟩ prog_21_method_12_code false [] sL_193 = true := by decide +kernel
/-- java/lang/StringBuilder.length()I -/
theorem sK_194 : sx_chkM 80 s_ex s_nc s_hn ⟨"java/lang/StringBuilder", "length", "()I"⟩ prog_26_method_93_code 1 (some .int) 0 false sL_194 [] [1251, 92] = true := by decide +kernel
theorem sC_194 : sx_chkL s_cl s_tf s_nt s_zs s_ks s_mt s_ex s_exn ⟨"java/lang/StringBuilder", "length", "()I"⟩ prog_26_method_93_code false [] sL_194 = true := by decide +kernel
/-- java/lang/StringBuilder.append(C)Ljava/lang/StringBuilder; -/
theorem sK_195 : sx_chkM 80 s_ex s_nc s_hn ⟨"java/lang/StringBuilder", "append", "(C)Ljava/lang/StringBuilder;"⟩ prog_26_method_14_code 2 (some (.object "java/lang/StringBuilder")) 1 false sL_195 [] [1314, 92] = true := by decide +kernel
theorem sC_195 : sx_chkL s_cl s_tf s_nt s_zs s_ks s_mt s_ex s_exn ⟨"java/lang/StringBuilder", "append", "(C)Ljava/lang/StringBuilder;"⟩ prog_26_method_14_code false [] sL_195 = true := by decide +kernel
/-- java/lang/AbstractStringBuilder.append(C)Ljava/lang/AbstractStringBuilder; -/
theorem sK_196 : sx_chkM 80 s_ex s_nc s_hn ⟨"java/lang/AbstractStringBuilder", "append", "(C)Ljava/lang/AbstractStringBuilder;"⟩ prog_16_method_31_code 2 (some (.object "java/lang/AbstractStringBuilder")) 1 false sL_196 [] [1317, 91] = true := by decide +kernel
theorem sC_196 : sx_chkL s_cl s_tf s_nt s_zs s_ks s_mt s_ex s_exn ⟨"java/lang/AbstractStringBuilder", "append", "(C)Ljava/lang/AbstractStringBuilder;"⟩ prog_16_method_31_code false [] sL_196 = true := by decide +kernel
/-- java/lang/StringLatin1.canEncode(C)Z -/
theorem sK_197 : sx_chkM 80 s_ex s_nc s_hn ⟨"java/lang/StringLatin1", "canEncode", "(C)Z"⟩ prog_27_method_3_code 1 (some .boolean) 1 false sL_197 [] [1320, 114] = true := by decide +kernel
theorem sC_197 : sx_chkL s_cl s_tf s_nt s_zs s_ks s_mt s_ex s_exn ⟨"java/lang/StringLatin1", "canEncode", "(C)Z"⟩ prog_27_method_3_code false [] sL_197 = true := by decide +kernel
/-- java/lang/StringBuilder.charAt(I)C -/
theorem sK_198 : sx_chkM 80 s_ex s_nc s_hn ⟨"java/lang/StringBuilder", "charAt", "(I)C"⟩ prog_26_method_88_code 2 (some .char) 1 false sL_198 [] [1336, 92] = true := by decide +kernel
theorem sC_198 : sx_chkL s_cl s_tf s_nt s_zs s_ks s_mt s_ex s_exn ⟨"java/lang/StringBuilder", "charAt", "(I)C"⟩ prog_26_method_88_code false [] sL_198 = true := by decide +kernel
/-- java/lang/AbstractStringBuilder.charAt(I)C -/
theorem sK_199 : sx_chkM 80 s_ex s_nc s_hn ⟨"java/lang/AbstractStringBuilder", "charAt", "(I)C"⟩ prog_16_method_14_code 5 (some .char) 1 false sL_199 [] [1339, 91] = true := by decide +kernel
theorem sC_199 : sx_chkL s_cl s_tf s_nt s_zs s_ks s_mt s_ex s_exn ⟨"java/lang/AbstractStringBuilder", "charAt", "(I)C"⟩ prog_16_method_14_code false [] sL_199 = true := by decide +kernel
/-- java/lang/String.checkIndex(II)V -/
theorem sK_200 : sx_chkM 80 s_ex s_nc s_hn ⟨"java/lang/String", "checkIndex", "(II)V"⟩ prog_25_method_155_code 2 none 2 false sL_200 [] [1329, 93] = true := by decide +kernel
theorem sC_200 : sx_chkL s_cl s_tf s_nt s_zs s_ks s_mt s_ex s_exn ⟨"java/lang/String", "checkIndex", "(II)V"⟩ prog_25_method_155_code false [] sL_200 = true := by decide +kernel
/-- java/lang/AbstractStringBuilder.length()I -/
theorem sK_201 : sx_chkM 80 s_ex s_nc s_hn ⟨"java/lang/AbstractStringBuilder", "length", "()I"⟩ prog_16_method_6_code 1 (some .int) 0 false sL_201 [] [1253, 91] = true := by decide +kernel
theorem sC_201 : sx_chkL s_cl s_tf s_nt s_zs s_ks s_mt s_ex s_exn ⟨"java/lang/AbstractStringBuilder", "length", "()I"⟩ prog_16_method_6_code false [] sL_201 = true := by decide +kernel
/-- the law -/
theorem sK_law : sx_chkM 80 s_ex s_nc s_hn x code maxLocals ret 1 false sL_law [] [0, 80] = true := by decide +kernel
theorem sC_law_0 : sx_chkL s_cl s_tf s_nt s_zs s_ks s_mt s_ex s_exn x code false [] sL_law_0 = true := by decide +kernel
theorem sC_law_1 : sx_chkL s_cl s_tf s_nt s_zs s_ks s_mt s_ex s_exn x code false [] sL_law_1 = true := by decide +kernel
theorem sC_law_2 : sx_chkL s_cl s_tf s_nt s_zs s_ks s_mt s_ex s_exn x code false [] sL_law_2 = true := by decide +kernel
theorem sC_law_3 : sx_chkL s_cl s_tf s_nt s_zs s_ks s_mt s_ex s_exn x code false [] sL_law_3 = true := by decide +kernel
theorem sC_law_4 : sx_chkL s_cl s_tf s_nt s_zs s_ks s_mt s_ex s_exn x code false [] sL_law_4 = true := by decide +kernel
theorem sC_law_5 : sx_chkL s_cl s_tf s_nt s_zs s_ks s_mt s_ex s_exn x code false [] sL_law_5 = true := by decide +kernel
theorem sC_law : sx_chkL s_cl s_tf s_nt s_zs s_ks s_mt s_ex s_exn x code false [] sL_law = true := by
  unfold sx_chkL sL_law
  simp only [List.all_append, Bool.and_eq_true]
  exact ⟨sC_law_0, sC_law_1, sC_law_2, sC_law_3, sC_law_4, sC_law_5⟩
