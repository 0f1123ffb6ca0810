/-- GuardNet.<init>()V -/
theorem sK_0 : sx_chkM 80 s_ex s_nc s_hn ⟨"GuardNet", "<init>", "()V"⟩ prog_1_method_1_code 1 none 0 true sL_0 [] [118, 79] = true := by decide +kernel
theorem sC_0 : sx_chkL s_cl s_tf s_nt s_zs s_ks s_mt s_ex s_exn ⟨"GuardNet", "<init>", "()V"⟩ prog_1_method_1_code true [] sL_0 = true := by decide +kernel
/-- GuardNet$Reader.<init>()V -/
theorem sK_1 : sx_chkM 80 s_ex s_nc s_hn ⟨"GuardNet$Reader", "<init>", "()V"⟩ prog_8_method_1_code 1 none 0 true sL_1 [] [126, 80] = true := by decide +kernel
theorem sC_1 : sx_chkL s_cl s_tf s_nt s_zs s_ks s_mt s_ex s_exn ⟨"GuardNet$Reader", "<init>", "()V"⟩ prog_8_method_1_code true [] sL_1 = true := by decide +kernel
/-- GuardNet$Network.<init>()V -/
theorem sK_2 : sx_chkM 80 s_ex s_nc s_hn ⟨"GuardNet$Network", "<init>", "()V"⟩ prog_5_method_1_code 2 none 0 true sL_2 [] [169, 84] = true := by decide +kernel
theorem sC_2 : sx_chkL s_cl s_tf s_nt s_zs s_ks s_mt s_ex s_exn ⟨"GuardNet$Network", "<init>", "()V"⟩ prog_5_method_1_code true [] sL_2 = true := by decide +kernel
/-- GuardNet$Use.<init>()V -/
theorem sK_3 : sx_chkM 80 s_ex s_nc s_hn ⟨"GuardNet$Use", "<init>", "()V"⟩ prog_12_method_1_code 1 none 0 true sL_3 [] [175, 85] = true := by decide +kernel
theorem sC_3 : sx_chkL s_cl s_tf s_nt s_zs s_ks s_mt s_ex s_exn ⟨"GuardNet$Use", "<init>", "()V"⟩ prog_12_method_1_code true [] sL_3 = true := by decide +kernel
/-- GuardNet$Store.<init>()V -/
theorem sK_4 : sx_chkM 80 s_ex s_nc s_hn ⟨"GuardNet$Store", "<init>", "()V"⟩ prog_10_method_1_code 1 none 0 true sL_4 [] [181, 86] = true := by decide +kernel
theorem sC_4 : sx_chkL s_cl s_tf s_nt s_zs s_ks s_mt s_ex s_exn ⟨"GuardNet$Store", "<init>", "()V"⟩ prog_10_method_1_code true [] sL_4 = true := by decide +kernel
/-- GuardNet$Pairs.<init>()V -/
theorem sK_5 : sx_chkM 80 s_ex s_nc s_hn ⟨"GuardNet$Pairs", "<init>", "()V"⟩ prog_7_method_1_code 1 none 0 true sL_5 [] [199, 87] = true := by decide +kernel
theorem sC_5 : sx_chkL s_cl s_tf s_nt s_zs s_ks s_mt s_ex s_exn ⟨"GuardNet$Pairs", "<init>", "()V"⟩ prog_7_method_1_code true [] sL_5 = true := by decide +kernel
/-- GuardNet$Row.<init>()V -/
theorem sK_6 : sx_chkM 80 s_ex s_nc s_hn ⟨"GuardNet$Row", "<init>", "()V"⟩ prog_9_method_1_code 1 none 0 true sL_6 [] [246, 88] = true := by decide +kernel
theorem sC_6 : sx_chkL s_cl s_tf s_nt s_zs s_ks s_mt s_ex s_exn ⟨"GuardNet$Row", "<init>", "()V"⟩ prog_9_method_1_code true [] sL_6 = true := by decide +kernel
/-- GuardNet.count(I)I -/
theorem sK_7 : sx_chkM 80 s_ex s_nc s_hn ⟨"GuardNet", "count", "(I)I"⟩ prog_1_method_11_code 2 (some .int) 1 false sL_7 [] [334, 79] = true := by decide +kernel
theorem sC_7 : sx_chkL s_cl s_tf s_nt s_zs s_ks s_mt s_ex s_exn ⟨"GuardNet", "count", "(I)I"⟩ prog_1_method_11_code false [] sL_7 = true := by decide +kernel
/-- GuardNet$Reader.length()I -/
theorem sK_8 : sx_chkM 80 s_ex s_nc s_hn ⟨"GuardNet$Reader", "length", "()I"⟩ prog_8_method_2_code 1 (some .int) 0 false sL_8 [] [338, 80] = true := by decide +kernel
theorem sC_8 : sx_chkL s_cl s_tf s_nt s_zs s_ks s_mt s_ex s_exn ⟨"GuardNet$Reader", "length", "()I"⟩ prog_8_method_2_code false [] sL_8 = true := by decide +kernel
/-- GuardNet$Network.steps()I -/
theorem sK_9 : sx_chkM 80 s_ex s_nc s_hn ⟨"GuardNet$Network", "steps", "()I"⟩ prog_5_method_3_code 1 (some .int) 0 false sL_9 [] [346, 84] = true := by decide +kernel
theorem sC_9 : sx_chkL s_cl s_tf s_nt s_zs s_ks s_mt s_ex s_exn ⟨"GuardNet$Network", "steps", "()I"⟩ prog_5_method_3_code false [] sL_9 = true := by decide +kernel
/-- GuardNet$Network.goalsInRows()I -/
theorem sK_10 : sx_chkM 80 s_ex s_nc s_hn ⟨"GuardNet$Network", "goalsInRows", "()I"⟩ prog_5_method_8_code 3 (some .int) 0 false sL_10 [] [350, 84] = true := by decide +kernel
theorem sC_10 : sx_chkL s_cl s_tf s_nt s_zs s_ks s_mt s_ex s_exn ⟨"GuardNet$Network", "goalsInRows", "()I"⟩ prog_5_method_8_code false [] sL_10 = true := by decide +kernel
/-- GuardNet$Row.size()I -/
theorem sK_11 : sx_chkM 80 s_ex s_nc s_hn ⟨"GuardNet$Row", "size", "()I"⟩ prog_9_method_2_code 1 (some .int) 0 false sL_11 [] [354, 88] = true := by decide +kernel
theorem sC_11 : sx_chkL s_cl s_tf s_nt s_zs s_ks s_mt s_ex s_exn ⟨"GuardNet$Row", "size", "()I"⟩ prog_9_method_2_code false [] sL_11 = true := by decide +kernel
/-- GuardNet$Network.goalsAsleep()I -/
theorem sK_12 : sx_chkM 80 s_ex s_nc s_hn ⟨"GuardNet$Network", "goalsAsleep", "()I"⟩ prog_5_method_6_code 1 (some .int) 0 false sL_12 [] [358, 84] = true := by decide +kernel
theorem sC_12 : sx_chkL s_cl s_tf s_nt s_zs s_ks s_mt s_ex s_exn ⟨"GuardNet$Network", "goalsAsleep", "()I"⟩ prog_5_method_6_code false [] sL_12 = true := by decide +kernel
/-- GuardNet$Network.variables()I -/
theorem sK_13 : sx_chkM 80 s_ex s_nc s_hn ⟨"GuardNet$Network", "variables", "()I"⟩ prog_5_method_5_code 1 (some .int) 0 false sL_13 [] [362, 84] = true := by decide +kernel
theorem sC_13 : sx_chkL s_cl s_tf s_nt s_zs s_ks s_mt s_ex s_exn ⟨"GuardNet$Network", "variables", "()I"⟩ prog_5_method_5_code false [] sL_13 = true := by decide +kernel
/-- GuardNet$Store.variables()I -/
theorem sK_14 : sx_chkM 80 s_ex s_nc s_hn ⟨"GuardNet$Store", "variables", "()I"⟩ prog_10_method_4_code 1 (some .int) 0 false sL_14 [] [366, 86] = true := by decide +kernel
theorem sC_14 : sx_chkL s_cl s_tf s_nt s_zs s_ks s_mt s_ex s_exn ⟨"GuardNet$Store", "variables", "()I"⟩ prog_10_method_4_code false [] sL_14 = true := by decide +kernel
/-- GuardNet$Network.sleeps()I -/
theorem sK_15 : sx_chkM 80 s_ex s_nc s_hn ⟨"GuardNet$Network", "sleeps", "()I"⟩ prog_5_method_4_code 1 (some .int) 0 false sL_15 [] [370, 84] = true := by decide +kernel
theorem sC_15 : sx_chkL s_cl s_tf s_nt s_zs s_ks s_mt s_ex s_exn ⟨"GuardNet$Network", "sleeps", "()I"⟩ prog_5_method_4_code false [] sL_15 = true := by decide +kernel
/-- GuardNet$Network.state()I -/
theorem sK_16 : sx_chkM 80 s_ex s_nc s_hn ⟨"GuardNet$Network", "state", "()I"⟩ prog_5_method_2_code 1 (some .int) 0 false sL_16 [] [374, 84] = true := by decide +kernel
theorem sC_16 : sx_chkL s_cl s_tf s_nt s_zs s_ks s_mt s_ex s_exn ⟨"GuardNet$Network", "state", "()I"⟩ prog_5_method_2_code false [] sL_16 = true := by decide +kernel
/-- GuardNet$Network.goalsAt(I)I -/
theorem sK_17 : sx_chkM 80 s_ex s_nc s_hn ⟨"GuardNet$Network", "goalsAt", "(I)I"⟩ prog_5_method_7_code 2 (some .int) 1 false sL_17 [] [378, 84] = true := by decide +kernel
theorem sC_17 : sx_chkL s_cl s_tf s_nt s_zs s_ks s_mt s_ex s_exn ⟨"GuardNet$Network", "goalsAt", "(I)I"⟩ prog_5_method_7_code false [] sL_17 = true := by decide +kernel
/-- GuardNetLaw.type(LGuardNet;J[J)I -/
theorem sK_18 : sx_chkM 80 s_ex s_nc s_hn ⟨"GuardNetLaw", "type", "(LGuardNet;J[J)I"⟩ method_3_code 5 (some .int) 3 false sL_18 [(0, 9, 12, 13, [0]), (0, 9, 16, 15, [1])] [381, 78] = true := by decide +kernel
theorem sC_18 : sx_chkL s_cl s_tf s_nt s_zs s_ks s_mt s_ex s_exn ⟨"GuardNetLaw", "type", "(LGuardNet;J[J)I"⟩ method_3_code false [(0, 9, 12, 13, [0]), (0, 9, 16, 15, [1])] sL_18 = true := by decide +kernel
/-- GuardNet.type(J)I -/
theorem sK_19 : sx_chkM 80 s_ex s_nc s_hn ⟨"GuardNet", "type", "(J)I"⟩ prog_1_method_2_code 6 (some .int) 1 false sL_19 [] [387, 79] = true := by decide +kernel
theorem sC_19 : sx_chkL s_cl s_tf s_nt s_zs s_ks s_mt s_ex s_exn ⟨"GuardNet", "type", "(J)I"⟩ prog_1_method_2_code false [] sL_19 = true := by decide +kernel
/-- GuardNet.byteAt(JI)I -/
theorem sK_20 : sx_chkM 80 s_ex s_nc s_hn ⟨"GuardNet", "byteAt", "(JI)I"⟩ prog_1_method_3_code 3 (some .int) 2 false sL_20 [] [390, 79] = true := by decide +kernel
theorem sC_20 : sx_chkL s_cl s_tf s_nt s_zs s_ks s_mt s_ex s_exn ⟨"GuardNet", "byteAt", "(JI)I"⟩ prog_1_method_3_code false [] sL_20 = true := by decide +kernel
/-- GuardNet$Reader.append(I)V -/
theorem sK_21 : sx_chkM 80 s_ex s_nc s_hn ⟨"GuardNet$Reader", "append", "(I)V"⟩ prog_8_method_3_code 2 none 1 false sL_21 [] [474, 80] = true := by decide +kernel
theorem sC_21 : sx_chkL s_cl s_tf s_nt s_zs s_ks s_mt s_ex s_exn ⟨"GuardNet$Reader", "append", "(I)V"⟩ prog_8_method_3_code false [] sL_21 = true := by decide +kernel
/-- GuardNetLaw.add(LGuardNet;[J)I -/
theorem sK_22 : sx_chkM 80 s_ex s_nc s_hn ⟨"GuardNetLaw", "add", "(LGuardNet;[J)I"⟩ method_4_code 3 (some .int) 2 false sL_22 [(0, 8, 11, 13, [0]), (0, 8, 14, 15, [1])] [477, 78] = true := by decide +kernel
theorem sC_22 : sx_chkL s_cl s_tf s_nt s_zs s_ks s_mt s_ex s_exn ⟨"GuardNetLaw", "add", "(LGuardNet;[J)I"⟩ method_4_code false [(0, 8, 11, 13, [0]), (0, 8, 14, 15, [1])] sL_22 = true := by decide +kernel
/-- GuardNet.add()I -/
theorem sK_23 : sx_chkM 80 s_ex s_nc s_hn ⟨"GuardNet", "add", "()I"⟩ prog_1_method_4_code 2 (some .int) 0 false sL_23 [] [481, 79] = true := by decide +kernel
theorem sC_23 : sx_chkL s_cl s_tf s_nt s_zs s_ks s_mt s_ex s_exn ⟨"GuardNet", "add", "()I"⟩ prog_1_method_4_code false [] sL_23 = true := by decide +kernel
/-- GuardNet$Reader.empty()V -/
theorem sK_24 : sx_chkM 80 s_ex s_nc s_hn ⟨"GuardNet$Reader", "empty", "()V"⟩ prog_8_method_4_code 1 none 0 false sL_24 [] [485, 80] = true := by decide +kernel
theorem sC_24 : sx_chkL s_cl s_tf s_nt s_zs s_ks s_mt s_ex s_exn ⟨"GuardNet$Reader", "empty", "()V"⟩ prog_8_method_4_code false [] sL_24 = true := by decide +kernel
/-- GuardNet$Reader.readClause()LGuardNet$Clause; -/
theorem sK_25 : sx_chkM 80 s_ex s_nc s_hn ⟨"GuardNet$Reader", "readClause", "()LGuardNet$Clause;"⟩ prog_8_method_6_code 3 (some (.object "GuardNet$Clause")) 0 false sL_25 [] [489, 80] = true := by decide +kernel
theorem sC_25 : sx_chkL s_cl s_tf s_nt s_zs s_ks s_mt s_ex s_exn ⟨"GuardNet$Reader", "readClause", "()LGuardNet$Clause;"⟩ prog_8_method_6_code false [] sL_25 = true := by decide +kernel
/-- GuardNet$Reader.next()I -/
theorem sK_26 : sx_chkM 80 s_ex s_nc s_hn ⟨"GuardNet$Reader", "next", "()I"⟩ prog_8_method_16_code 1 (some .int) 0 false sL_26 [] [493, 80] = true := by decide +kernel
theorem sC_26 : sx_chkL s_cl s_tf s_nt s_zs s_ks s_mt s_ex s_exn ⟨"GuardNet$Reader", "next", "()I"⟩ prog_8_method_16_code false [] sL_26 = true := by decide +kernel
/-- GuardNet$Reader.isSmall(I)Z -/
theorem sK_27 : sx_chkM 80 s_ex s_nc s_hn ⟨"GuardNet$Reader", "isSmall", "(I)Z"⟩ prog_8_method_18_code 1 (some .boolean) 1 false sL_27 [] [496, 80] = true := by decide +kernel
theorem sC_27 : sx_chkL s_cl s_tf s_nt s_zs s_ks s_mt s_ex s_exn ⟨"GuardNet$Reader", "isSmall", "(I)Z"⟩ prog_8_method_18_code false [] sL_27 = true := by decide +kernel
/-- GuardNet$Reader.readTerm(I)LGuardNet$Term; -/
theorem sK_28 : sx_chkM 80 s_ex s_nc s_hn ⟨"GuardNet$Reader", "readTerm", "(I)LGuardNet$Term;"⟩ prog_8_method_13_code 4 (some (.object "GuardNet$Term")) 1 false sL_28 [] [500, 80] = true := by decide +kernel
theorem sC_28 : sx_chkL s_cl s_tf s_nt s_zs s_ks s_mt s_ex s_exn ⟨"GuardNet$Reader", "readTerm", "(I)LGuardNet$Term;"⟩ prog_8_method_13_code false [] sL_28 = true := by decide +kernel
/-- GuardNet$Reader.isDigit(I)Z -/
theorem sK_30 : sx_chkM 80 s_ex s_nc s_hn ⟨"GuardNet$Reader", "isDigit", "(I)Z"⟩ prog_8_method_19_code 1 (some .boolean) 1 false sL_30 [] [533, 80] = true := by decide +kernel
theorem sC_30 : sx_chkL s_cl s_tf s_nt s_zs s_ks s_mt s_ex s_exn ⟨"GuardNet$Reader", "isDigit", "(I)Z"⟩ prog_8_method_19_code false [] sL_30 = true := by decide +kernel
/-- GuardNet$Reader.readItems(Ljava/util/ArrayList;Z)Z -/
theorem sK_36 : sx_chkM 80 s_ex s_nc s_hn ⟨"GuardNet$Reader", "readItems", "(Ljava/util/ArrayList;Z)Z"⟩ prog_8_method_8_code 5 (some .boolean) 2 false sL_36 [] [576, 80] = true := by decide +kernel
theorem sC_36 : sx_chkL s_cl s_tf s_nt s_zs s_ks s_mt s_ex s_exn ⟨"GuardNet$Reader", "readItems", "(Ljava/util/ArrayList;Z)Z"⟩ prog_8_method_8_code false [] sL_36 = true := by decide +kernel
/-- GuardNet$Reader.readGoal()LGuardNet$Item; -/
theorem sK_39 : sx_chkM 80 s_ex s_nc s_hn ⟨"GuardNet$Reader", "readGoal", "()LGuardNet$Item;"⟩ prog_8_method_10_code 3 (some (.object "GuardNet$Item")) 0 false sL_39 [] [614, 80] = true := by decide +kernel
theorem sC_39 : sx_chkL s_cl s_tf s_nt s_zs s_ks s_mt s_ex s_exn ⟨"GuardNet$Reader", "readGoal", "()LGuardNet$Item;"⟩ prog_8_method_10_code false [] sL_39 = true := by decide +kernel
/-- GuardNet$Reader.place()I -/
theorem sK_42 : sx_chkM 80 s_ex s_nc s_hn ⟨"GuardNet$Reader", "place", "()I"⟩ prog_8_method_5_code 1 (some .int) 0 false sL_42 [] [693, 80] = true := by decide +kernel
theorem sC_42 : sx_chkL s_cl s_tf s_nt s_zs s_ks s_mt s_ex s_exn ⟨"GuardNet$Reader", "place", "()I"⟩ prog_8_method_5_code false [] sL_42 = true := by decide +kernel
/-- GuardNetLaw.drop(LGuardNet;I)I -/
theorem sK_43 : sx_chkM 80 s_ex s_nc s_hn ⟨"GuardNetLaw", "drop", "(LGuardNet;I)I"⟩ method_5_code 3 (some .int) 2 false sL_43 [(0, 5, 8, 13, [0])] [697, 78] = true := by decide +kernel
theorem sC_43 : sx_chkL s_cl s_tf s_nt s_zs s_ks s_mt s_ex s_exn ⟨"GuardNetLaw", "drop", "(LGuardNet;I)I"⟩ method_5_code false [(0, 5, 8, 13, [0])] sL_43 = true := by decide +kernel
/-- GuardNet.drop(I)V -/
theorem sK_44 : sx_chkM 80 s_ex s_nc s_hn ⟨"GuardNet", "drop", "(I)V"⟩ prog_1_method_5_code 2 none 1 false sL_44 [] [701, 79] = true := by decide +kernel
theorem sC_44 : sx_chkL s_cl s_tf s_nt s_zs s_ks s_mt s_ex s_exn ⟨"GuardNet", "drop", "(I)V"⟩ prog_1_method_5_code false [] sL_44 = true := by decide +kernel
/-- GuardNetLaw.ask(LGuardNet;[J)I -/
theorem sK_45 : sx_chkM 80 s_ex s_nc s_hn ⟨"GuardNetLaw", "ask", "(LGuardNet;[J)I"⟩ method_6_code 3 (some .int) 2 false sL_45 [(0, 8, 11, 13, [0])] [719, 78] = true := by decide +kernel
theorem sC_45 : sx_chkL s_cl s_tf s_nt s_zs s_ks s_mt s_ex s_exn ⟨"GuardNetLaw", "ask", "(LGuardNet;[J)I"⟩ method_6_code false [(0, 8, 11, 13, [0])] sL_45 = true := by decide +kernel
/-- GuardNet.ask()I -/
theorem sK_46 : sx_chkM 80 s_ex s_nc s_hn ⟨"GuardNet", "ask", "()I"⟩ prog_1_method_6_code 2 (some .int) 0 false sL_46 [] [723, 79] = true := by decide +kernel
theorem sC_46 : sx_chkL s_cl s_tf s_nt s_zs s_ks s_mt s_ex s_exn ⟨"GuardNet", "ask", "()I"⟩ prog_1_method_6_code false [] sL_46 = true := by decide +kernel
/-- GuardNet$Reader.readQuestion()Ljava/util/ArrayList; -/
theorem sK_47 : sx_chkM 80 s_ex s_nc s_hn ⟨"GuardNet$Reader", "readQuestion", "()Ljava/util/ArrayList;"⟩ prog_8_method_7_code 2 (some (.object "java/util/ArrayList")) 0 false sL_47 [] [727, 80] = true := by decide +kernel
theorem sC_47 : sx_chkL s_cl s_tf s_nt s_zs s_ks s_mt s_ex s_exn ⟨"GuardNet$Reader", "readQuestion", "()Ljava/util/ArrayList;"⟩ prog_8_method_7_code false [] sL_47 = true := by decide +kernel
/-- GuardNetLaw.run(LGuardNet;I[J)I -/
theorem sK_66 : sx_chkM 80 s_ex s_nc s_hn ⟨"GuardNetLaw", "run", "(LGuardNet;I[J)I"⟩ method_7_code 4 (some .int) 3 false sL_66 [(0, 9, 12, 13, [0]), (0, 9, 15, 15, [1]), (0, 9, 18, 32, [2])] [883, 78] = true := by decide +kernel
theorem sC_66 : sx_chkL s_cl s_tf s_nt s_zs s_ks s_mt s_ex s_exn ⟨"GuardNetLaw", "run", "(LGuardNet;I[J)I"⟩ method_7_code false [(0, 9, 12, 13, [0]), (0, 9, 15, 15, [1]), (0, 9, 18, 32, [2])] sL_66 = true := by decide +kernel
/-- GuardNet.run(I)I -/
theorem sK_67 : sx_chkM 80 s_ex s_nc s_hn ⟨"GuardNet", "run", "(I)I"⟩ prog_1_method_7_code 3 (some .int) 1 false sL_67 [] [888, 79] = true := by decide +kernel
theorem sC_67 : sx_chkL s_cl s_tf s_nt s_zs s_ks s_mt s_ex s_exn ⟨"GuardNet", "run", "(I)I"⟩ prog_1_method_7_code false [] sL_67 = true := by decide +kernel
/-- GuardNetLaw.letter(LGuardNet;II[J)I -/
theorem sK_101 : sx_chkM 80 s_ex s_nc s_hn ⟨"GuardNetLaw", "letter", "(LGuardNet;II[J)I"⟩ method_8_code 5 (some .int) 4 false sL_101 [(0, 10, 13, 13, [0]), (0, 10, 17, 38, [3])] [1049, 78] = true := by decide +kernel
theorem sC_101 : sx_chkL s_cl s_tf s_nt s_zs s_ks s_mt s_ex s_exn ⟨"GuardNetLaw", "letter", "(LGuardNet;II[J)I"⟩ method_8_code false [(0, 10, 13, 13, [0]), (0, 10, 17, 38, [3])] sL_101 = true := by decide +kernel
/-- GuardNet.letter(II)I -/
theorem sK_102 : sx_chkM 80 s_ex s_nc s_hn ⟨"GuardNet", "letter", "(II)I"⟩ prog_1_method_8_code 5 (some .int) 2 false sL_102 [] [1054, 79] = true := by decide +kernel
theorem sC_102 : sx_chkL s_cl s_tf s_nt s_zs s_ks s_mt s_ex s_exn ⟨"GuardNet", "letter", "(II)I"⟩ prog_1_method_8_code false [] sL_102 = true := by decide +kernel
/-- GuardNet$Network.named(I)LGuardNet$Node; -/
theorem sK_103 : sx_chkM 80 s_ex s_nc s_hn ⟨"GuardNet$Network", "named", "(I)LGuardNet$Node;"⟩ prog_5_method_10_code 2 (some (.object "GuardNet$Node")) 1 false sL_103 [] [1058, 84] = true := by decide +kernel
theorem sC_103 : sx_chkL s_cl s_tf s_nt s_zs s_ks s_mt s_ex s_exn ⟨"GuardNet$Network", "named", "(I)LGuardNet$Node;"⟩ prog_5_method_10_code false [] sL_103 = true := by decide +kernel
/-- GuardNetLaw.sleeping(LGuardNet;I[J)I -/
theorem sK_105 : sx_chkM 80 s_ex s_nc s_hn ⟨"GuardNetLaw", "sleeping", "(LGuardNet;I[J)I"⟩ method_9_code 4 (some .int) 3 false sL_105 [(0, 9, 12, 13, [0])] [1343, 78] = true := by decide +kernel
theorem sC_105 : sx_chkL s_cl s_tf s_nt s_zs s_ks s_mt s_ex s_exn ⟨"GuardNetLaw", "sleeping", "(LGuardNet;I[J)I"⟩ method_9_code false [(0, 9, 12, 13, [0])] sL_105 = true := by decide +kernel
/-- GuardNet.sleeping(I)I -/
theorem sK_106 : sx_chkM 80 s_ex s_nc s_hn ⟨"GuardNet", "sleeping", "(I)I"⟩ prog_1_method_10_code 3 (some .int) 1 false sL_106 [] [1347, 79] = true := by decide +kernel
theorem sC_106 : sx_chkL s_cl s_tf s_nt s_zs s_ks s_mt s_ex s_exn ⟨"GuardNet", "sleeping", "(I)I"⟩ prog_1_method_10_code false [] sL_106 = true := by decide +kernel
/-- GuardNetModel.<init>()V -/
theorem sK_108 : sx_chkM 80 s_ex s_nc s_hn ⟨"GuardNetModel", "<init>", "()V"⟩ prog_14_method_1_code 1 none 0 true sL_108 [] [1356, 93] = true := by decide +kernel
theorem sC_108 : sx_chkL s_cl s_tf s_nt s_zs s_ks s_mt s_ex s_exn ⟨"GuardNetModel", "<init>", "()V"⟩ prog_14_method_1_code true [] sL_108 = true := by decide +kernel
/-- GuardNetModel.thrown()I -/
theorem sK_109 : sx_chkM 80 s_ex s_nc s_hn ⟨"GuardNetModel", "thrown", "()I"⟩ prog_14_method_2_code 1 (some .int) 0 false sL_109 [] [1506, 93] = true := by decide +kernel
theorem sC_109 : sx_chkL s_cl s_tf s_nt s_zs s_ks s_mt s_ex s_exn ⟨"GuardNetModel", "thrown", "()I"⟩ prog_14_method_2_code false [] sL_109 = true := by decide +kernel
/-- GuardNetModel.type(J)I -/
theorem sK_110 : sx_chkM 80 s_ex s_nc s_hn ⟨"GuardNetModel", "type", "(J)I"⟩ prog_14_method_6_code 7 (some .int) 1 false sL_110 [] [1510, 93] = true := by decide +kernel
theorem sC_110 : sx_chkL s_cl s_tf s_nt s_zs s_ks s_mt s_ex s_exn ⟨"GuardNetModel", "type", "(J)I"⟩ prog_14_method_6_code false [] sL_110 = true := by decide +kernel
/-- GuardNetModel.in(III)Z -/
theorem sK_111 : sx_chkM 80 s_ex s_nc s_hn ⟨"GuardNetModel", "in", "(III)Z"⟩ prog_14_method_3_code 3 (some .boolean) 3 false sL_111 [] [1513, 93] = true := by decide +kernel
theorem sC_111 : sx_chkL s_cl s_tf s_nt s_zs s_ks s_mt s_ex s_exn ⟨"GuardNetModel", "in", "(III)Z"⟩ prog_14_method_3_code false [] sL_111 = true := by decide +kernel
/-- GuardNetModel.bad(Z)Z -/
theorem sK_112 : sx_chkM 80 s_ex s_nc s_hn ⟨"GuardNetModel", "bad", "(Z)Z"⟩ prog_14_method_4_code 2 (some .boolean) 1 false sL_112 [] [1517, 93] = true := by decide +kernel
theorem sC_112 : sx_chkL s_cl s_tf s_nt s_zs s_ks s_mt s_ex s_exn ⟨"GuardNetModel", "bad", "(Z)Z"⟩ prog_14_method_4_code false [] sL_112 = true := by decide +kernel
/-- GuardNetModel.fail(I)I -/
theorem sK_113 : sx_chkM 80 s_ex s_nc s_hn ⟨"GuardNetModel", "fail", "(I)I"⟩ prog_14_method_5_code 2 (some .int) 1 false sL_113 [] [1521, 93] = true := by decide +kernel
theorem sC_113 : sx_chkL s_cl s_tf s_nt s_zs s_ks s_mt s_ex s_exn ⟨"GuardNetModel", "fail", "(I)I"⟩ prog_14_method_5_code false [] sL_113 = true := by decide +kernel
/-- GuardNetModel.add()I -/
theorem sK_114 : sx_chkM 80 s_ex s_nc s_hn ⟨"GuardNetModel", "add", "()I"⟩ prog_14_method_12_code 3 (some .int) 0 false sL_114 [] [1525, 93] = true := by decide +kernel
theorem sC_114 : sx_chkL s_cl s_tf s_nt s_zs s_ks s_mt s_ex s_exn ⟨"GuardNetModel", "add", "()I"⟩ prog_14_method_12_code false [] sL_114 = true := by decide +kernel
/-- GuardNetModel.readClause()Z -/
theorem sK_115 : sx_chkM 80 s_ex s_nc s_hn ⟨"GuardNetModel", "readClause", "()Z"⟩ prog_14_method_11_code 1 (some .boolean) 0 false sL_115 [] [1529, 93] = true := by decide +kernel
theorem sC_115 : sx_chkL s_cl s_tf s_nt s_zs s_ks s_mt s_ex s_exn ⟨"GuardNetModel", "readClause", "()Z"⟩ prog_14_method_11_code false [] sL_115 = true := by decide +kernel
/-- GuardNetModel.readTerm(Z)Z -/
theorem sK_116 : sx_chkM 80 s_ex s_nc s_hn ⟨"GuardNetModel", "readTerm", "(Z)Z"⟩ prog_14_method_9_code 6 (some .boolean) 1 false sL_116 [] [1533, 93] = true := by decide +kernel
theorem sC_116 : sx_chkL s_cl s_tf s_nt s_zs s_ks s_mt s_ex s_exn ⟨"GuardNetModel", "readTerm", "(Z)Z"⟩ prog_14_method_9_code false [] sL_116 = true := by decide +kernel
/-- GuardNetModel.look()I -/
theorem sK_117 : sx_chkM 80 s_ex s_nc s_hn ⟨"GuardNetModel", "look", "()I"⟩ prog_14_method_7_code 1 (some .int) 0 false sL_117 [] [1537, 93] = true := by decide +kernel
theorem sC_117 : sx_chkL s_cl s_tf s_nt s_zs s_ks s_mt s_ex s_exn ⟨"GuardNetModel", "look", "()I"⟩ prog_14_method_7_code false [] sL_117 = true := by decide +kernel
/-- GuardNetModel.readGoals()Z -/
theorem sK_119 : sx_chkM 80 s_ex s_nc s_hn ⟨"GuardNetModel", "readGoals", "()Z"⟩ prog_14_method_10_code 3 (some .boolean) 0 false sL_119 [] [1545, 93] = true := by decide +kernel
theorem sC_119 : sx_chkL s_cl s_tf s_nt s_zs s_ks s_mt s_ex s_exn ⟨"GuardNetModel", "readGoals", "()Z"⟩ prog_14_method_10_code false [] sL_119 = true := by decide +kernel
/-- GuardNetModel.drop(I)V -/
theorem sK_120 : sx_chkM 80 s_ex s_nc s_hn ⟨"GuardNetModel", "drop", "(I)V"⟩ prog_14_method_13_code 4 none 1 false sL_120 [] [1549, 93] = true := by decide +kernel
theorem sC_120 : sx_chkL s_cl s_tf s_nt s_zs s_ks s_mt s_ex s_exn ⟨"GuardNetModel", "drop", "(I)V"⟩ prog_14_method_13_code false [] sL_120 = true := by decide +kernel
/-- GuardNetModel.ask()I -/
theorem sK_121 : sx_chkM 80 s_ex s_nc s_hn ⟨"GuardNetModel", "ask", "()I"⟩ prog_14_method_44_code 4 (some .int) 0 false sL_121 [] [1553, 93] = true := by decide +kernel
theorem sC_121 : sx_chkL s_cl s_tf s_nt s_zs s_ks s_mt s_ex s_exn ⟨"GuardNetModel", "ask", "()I"⟩ prog_14_method_44_code false [] sL_121 = true := by decide +kernel
/-- GuardNetModel.run(I)I -/
theorem sK_133 : sx_chkM 80 s_ex s_nc s_hn ⟨"GuardNetModel", "run", "(I)I"⟩ prog_14_method_46_code 3 (some .int) 1 false sL_133 [] [1602, 93] = true := by decide +kernel
theorem sC_133 : sx_chkL s_cl s_tf s_nt s_zs s_ks s_mt s_ex s_exn ⟨"GuardNetModel", "run", "(I)I"⟩ prog_14_method_46_code false [] sL_133 = true := by decide +kernel
/-- GuardNetModel.letter(II)I -/
theorem sK_154 : sx_chkM 80 s_ex s_nc s_hn ⟨"GuardNetModel", "letter", "(II)I"⟩ prog_14_method_50_code 3 (some .int) 2 false sL_154 [] [1687, 93] = true := by decide +kernel
theorem sC_154 : sx_chkL s_cl s_tf s_nt s_zs s_ks s_mt s_ex s_exn ⟨"GuardNetModel", "letter", "(II)I"⟩ prog_14_method_50_code false [] sL_154 = true := by decide +kernel
/-- GuardNetModel.sleeping(I)I -/
theorem sK_158 : sx_chkM 80 s_ex s_nc s_hn ⟨"GuardNetModel", "sleeping", "(I)I"⟩ prog_14_method_51_code 5 (some .int) 1 false sL_158 [] [1708, 93] = true := by decide +kernel
theorem sC_158 : sx_chkL s_cl s_tf s_nt s_zs s_ks s_mt s_ex s_exn ⟨"GuardNetModel", "sleeping", "(I)I"⟩ prog_14_method_51_code false [] sL_158 = true := by decide +kernel
/-- GuardNetModel.count(I)I -/
theorem sK_159 : sx_chkM 80 s_ex s_nc s_hn ⟨"GuardNetModel", "count", "(I)I"⟩ prog_14_method_52_code 2 (some .int) 1 false sL_159 [] [1712, 93] = true := by decide +kernel
theorem sC_159 : sx_chkL s_cl s_tf s_nt s_zs s_ks s_mt s_ex s_exn ⟨"GuardNetModel", "count", "(I)I"⟩ prog_14_method_52_code false [] sL_159 = true := by decide +kernel
/-- java/util/ArrayList.<init>()V -/
theorem sK_160 : sx_chkM 80 s_ex s_nc s_hn ⟨"java/util/ArrayList", "<init>", "()V"⟩ prog_34_method_2_code 1 none 0 true sL_160 [] [143, 83] = true := by decide +kernel
theorem sC_160 : sx_chkL s_cl s_tf s_nt s_zs s_ks s_mt s_ex s_exn ⟨"java/util/ArrayList", "<init>", "()V"⟩ prog_34_method_2_code true [] sL_160 = true := by decide +kernel
/-- java/util/AbstractList.<init>()V -/
theorem sK_161 : sx_chkM 80 s_ex s_nc s_hn ⟨"java/util/AbstractList", "<init>", "()V"⟩ prog_33_method_1_code 1 none 0 true sL_161 [] [146, 82] = true := by decide +kernel
theorem sC_161 : sx_chkL s_cl s_tf s_nt s_zs s_ks s_mt s_ex s_exn ⟨"java/util/AbstractList", "<init>", "()V"⟩ prog_33_method_1_code true [] sL_161 = true := by decide +kernel
/-- java/util/AbstractCollection.<init>()V -/
theorem sK_162 : sx_chkM 80 s_ex s_nc s_hn ⟨"java/util/AbstractCollection", "<init>", "()V"⟩ prog_32_method_1_code 1 none 0 true sL_162 [] [149, 81] = true := by decide +kernel
theorem sC_162 : sx_chkL s_cl s_tf s_nt s_zs s_ks s_mt s_ex s_exn ⟨"java/util/AbstractCollection", "<init>", "()V"⟩ prog_32_method_1_code true [] sL_162 = true := by decide +kernel
/-- java/lang/StringBuilder.<init>()V -/
theorem sK_163 : sx_chkM 80 s_ex s_nc s_hn ⟨"java/lang/StringBuilder", "<init>", "()V"⟩ prog_26_method_1_code 1 none 0 true sL_163 [] [287, 90] = true := by decide +kernel
theorem sC_163 : sx_chkL s_cl s_tf s_nt s_zs s_ks s_mt s_ex s_exn ⟨"java/lang/StringBuilder", "<init>", "()V"⟩ prog_26_method_1_code true [] sL_163 = true := by decide +kernel
/-- java/lang/AbstractStringBuilder.<init>(I)V -/
theorem sK_164 : sx_chkM 80 s_ex s_nc s_hn ⟨"java/lang/AbstractStringBuilder", "<init>", "(I)V"⟩ prog_16_method_2_code 2 none 1 true sL_164 [] [290, 89] = true := by decide +kernel
theorem sC_164 : sx_chkL s_cl s_tf s_nt s_zs s_ks s_mt s_ex s_exn ⟨"java/lang/AbstractStringBuilder", "<init>", "(I)V"⟩ prog_16_method_2_code true [] sL_164 = true := by decide +kernel
/-- java/util/ArrayList.size()I -/
theorem sK_165 : sx_chkM 80 s_ex s_nc s_hn ⟨"java/util/ArrayList", "size", "()I"⟩ prog_34_method_8_code 1 (some .int) 0 false sL_165 [] [342, 83] = true := by decide +kernel
theorem sC_165 : sx_chkL s_cl s_tf s_nt s_zs s_ks s_mt s_ex s_exn ⟨"java/util/ArrayList", "size", "()I"⟩ prog_34_method_8_code false [] sL_165 = true := by decide +kernel
/-- the law -/
theorem sK_law : sx_chkM 80 s_ex s_nc s_hn x code maxLocals ret 1 false sL_law [] [0, 78] = true := by decide +kernel
theorem sC_law_0 : sx_chkL s_cl s_tf s_nt s_zs s_ks s_mt s_ex s_exn x code false [] sL_law_0 = true := by decide +kernel
theorem sC_law_1 : sx_chkL s_cl s_tf s_nt s_zs s_ks s_mt s_ex s_exn x code false [] sL_law_1 = true := by decide +kernel
theorem sC_law_2 : sx_chkL s_cl s_tf s_nt s_zs s_ks s_mt s_ex s_exn x code false [] sL_law_2 = true := by decide +kernel
theorem sC_law_3 : sx_chkL s_cl s_tf s_nt s_zs s_ks s_mt s_ex s_exn x code false [] sL_law_3 = true := by decide +kernel
theorem sC_law_4 : sx_chkL s_cl s_tf s_nt s_zs s_ks s_mt s_ex s_exn x code false [] sL_law_4 = true := by decide +kernel
theorem sC_law_5 : sx_chkL s_cl s_tf s_nt s_zs s_ks s_mt s_ex s_exn x code false [] sL_law_5 = true := by decide +kernel
theorem sC_law : sx_chkL s_cl s_tf s_nt s_zs s_ks s_mt s_ex s_exn x code false [] sL_law = true := by
  unfold sx_chkL sL_law
  simp only [List.all_append, Bool.and_eq_true]
  exact ⟨sC_law_0, sC_law_1, sC_law_2, sC_law_3, sC_law_4, sC_law_5⟩
