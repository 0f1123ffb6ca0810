/-- GuardNet.<init>()V -/
theorem sK_0 : sx_chkM 80 s_ex s_nc s_hn ⟨"GuardNet", "<init>", "()V"⟩ prog_1_method_1_code 1 none 0 true sL_0 [] [118, 79] = true := by decide +kernel
theorem sC_0 : sx_chkL s_cl s_tf s_nt s_zs s_ks s_mt s_ex s_exn ⟨"GuardNet", "<init>", "()V"⟩ prog_1_method_1_code true [] sL_0 = true := by decide +kernel
/-- GuardNet.count(I)I -/
theorem sK_7 : sx_chkM 80 s_ex s_nc s_hn ⟨"GuardNet", "count", "(I)I"⟩ prog_1_method_11_code 2 (some .int) 1 false sL_7 [] [334, 79] = true := by decide +kernel
theorem sC_7 : sx_chkL s_cl s_tf s_nt s_zs s_ks s_mt s_ex s_exn ⟨"GuardNet", "count", "(I)I"⟩ prog_1_method_11_code false [] sL_7 = true := by decide +kernel
/-- GuardNetLaw.type(LGuardNet;J[J)I -/
theorem sK_18 : sx_chkM 80 s_ex s_nc s_hn ⟨"GuardNetLaw", "type", "(LGuardNet;J[J)I"⟩ method_3_code 5 (some .int) 3 false sL_18 [(0, 9, 12, 13, [0]), (0, 9, 16, 15, [1])] [381, 78] = true := by decide +kernel
theorem sC_18 : sx_chkL s_cl s_tf s_nt s_zs s_ks s_mt s_ex s_exn ⟨"GuardNetLaw", "type", "(LGuardNet;J[J)I"⟩ method_3_code false [(0, 9, 12, 13, [0]), (0, 9, 16, 15, [1])] sL_18 = true := by decide +kernel
/-- GuardNet.type(J)I -/
theorem sK_19 : sx_chkM 80 s_ex s_nc s_hn ⟨"GuardNet", "type", "(J)I"⟩ prog_1_method_2_code 6 (some .int) 1 false sL_19 [] [387, 79] = true := by decide +kernel
theorem sC_19 : sx_chkL s_cl s_tf s_nt s_zs s_ks s_mt s_ex s_exn ⟨"GuardNet", "type", "(J)I"⟩ prog_1_method_2_code false [] sL_19 = true := by decide +kernel
/-- GuardNet.byteAt(JI)I -/
theorem sK_20 : sx_chkM 80 s_ex s_nc s_hn ⟨"GuardNet", "byteAt", "(JI)I"⟩ prog_1_method_3_code 3 (some .int) 2 false sL_20 [] [390, 79] = true := by decide +kernel
theorem sC_20 : sx_chkL s_cl s_tf s_nt s_zs s_ks s_mt s_ex s_exn ⟨"GuardNet", "byteAt", "(JI)I"⟩ prog_1_method_3_code false [] sL_20 = true := by decide +kernel
/-- GuardNetLaw.add(LGuardNet;[J)I -/
theorem sK_22 : sx_chkM 80 s_ex s_nc s_hn ⟨"GuardNetLaw", "add", "(LGuardNet;[J)I"⟩ method_4_code 3 (some .int) 2 false sL_22 [(0, 8, 11, 13, [0]), (0, 8, 14, 15, [1])] [477, 78] = true := by decide +kernel
theorem sC_22 : sx_chkL s_cl s_tf s_nt s_zs s_ks s_mt s_ex s_exn ⟨"GuardNetLaw", "add", "(LGuardNet;[J)I"⟩ method_4_code false [(0, 8, 11, 13, [0]), (0, 8, 14, 15, [1])] sL_22 = true := by decide +kernel
/-- GuardNet.add()I -/
theorem sK_23 : sx_chkM 80 s_ex s_nc s_hn ⟨"GuardNet", "add", "()I"⟩ prog_1_method_4_code 2 (some .int) 0 false sL_23 [] [481, 79] = true := by decide +kernel
theorem sC_23 : sx_chkL s_cl s_tf s_nt s_zs s_ks s_mt s_ex s_exn ⟨"GuardNet", "add", "()I"⟩ prog_1_method_4_code false [] sL_23 = true := by decide +kernel
/-- GuardNetLaw.drop(LGuardNet;I)I -/
theorem sK_43 : sx_chkM 80 s_ex s_nc s_hn ⟨"GuardNetLaw", "drop", "(LGuardNet;I)I"⟩ method_5_code 3 (some .int) 2 false sL_43 [(0, 5, 8, 13, [0])] [697, 78] = true := by decide +kernel
theorem sC_43 : sx_chkL s_cl s_tf s_nt s_zs s_ks s_mt s_ex s_exn ⟨"GuardNetLaw", "drop", "(LGuardNet;I)I"⟩ method_5_code false [(0, 5, 8, 13, [0])] sL_43 = true := by decide +kernel
/-- GuardNet.drop(I)V -/
theorem sK_44 : sx_chkM 80 s_ex s_nc s_hn ⟨"GuardNet", "drop", "(I)V"⟩ prog_1_method_5_code 2 none 1 false sL_44 [] [701, 79] = true := by decide +kernel
theorem sC_44 : sx_chkL s_cl s_tf s_nt s_zs s_ks s_mt s_ex s_exn ⟨"GuardNet", "drop", "(I)V"⟩ prog_1_method_5_code false [] sL_44 = true := by decide +kernel
/-- GuardNetLaw.ask(LGuardNet;[J)I -/
theorem sK_45 : sx_chkM 80 s_ex s_nc s_hn ⟨"GuardNetLaw", "ask", "(LGuardNet;[J)I"⟩ method_6_code 3 (some .int) 2 false sL_45 [(0, 8, 11, 13, [0])] [719, 78] = true := by decide +kernel
theorem sC_45 : sx_chkL s_cl s_tf s_nt s_zs s_ks s_mt s_ex s_exn ⟨"GuardNetLaw", "ask", "(LGuardNet;[J)I"⟩ method_6_code false [(0, 8, 11, 13, [0])] sL_45 = true := by decide +kernel
/-- GuardNet.ask()I -/
theorem sK_46 : sx_chkM 80 s_ex s_nc s_hn ⟨"GuardNet", "ask", "()I"⟩ prog_1_method_6_code 2 (some .int) 0 false sL_46 [] [723, 79] = true := by decide +kernel
theorem sC_46 : sx_chkL s_cl s_tf s_nt s_zs s_ks s_mt s_ex s_exn ⟨"GuardNet", "ask", "()I"⟩ prog_1_method_6_code false [] sL_46 = true := by decide +kernel
/-- GuardNetLaw.run(LGuardNet;I[J)I -/
theorem sK_66 : sx_chkM 80 s_ex s_nc s_hn ⟨"GuardNetLaw", "run", "(LGuardNet;I[J)I"⟩ method_7_code 4 (some .int) 3 false sL_66 [(0, 9, 12, 13, [0]), (0, 9, 15, 15, [1]), (0, 9, 18, 32, [2])] [883, 78] = true := by decide +kernel
theorem sC_66 : sx_chkL s_cl s_tf s_nt s_zs s_ks s_mt s_ex s_exn ⟨"GuardNetLaw", "run", "(LGuardNet;I[J)I"⟩ method_7_code false [(0, 9, 12, 13, [0]), (0, 9, 15, 15, [1]), (0, 9, 18, 32, [2])] sL_66 = true := by decide +kernel
/-- GuardNet.run(I)I -/
theorem sK_67 : sx_chkM 80 s_ex s_nc s_hn ⟨"GuardNet", "run", "(I)I"⟩ prog_1_method_7_code 3 (some .int) 1 false sL_67 [] [888, 79] = true := by decide +kernel
theorem sC_67 : sx_chkL s_cl s_tf s_nt s_zs s_ks s_mt s_ex s_exn ⟨"GuardNet", "run", "(I)I"⟩ prog_1_method_7_code false [] sL_67 = true := by decide +kernel
/-- GuardNetLaw.letter(LGuardNet;II[J)I -/
theorem sK_101 : sx_chkM 80 s_ex s_nc s_hn ⟨"GuardNetLaw", "letter", "(LGuardNet;II[J)I"⟩ method_8_code 5 (some .int) 4 false sL_101 [(0, 10, 13, 13, [0]), (0, 10, 17, 38, [3])] [1049, 78] = true := by decide +kernel
theorem sC_101 : sx_chkL s_cl s_tf s_nt s_zs s_ks s_mt s_ex s_exn ⟨"GuardNetLaw", "letter", "(LGuardNet;II[J)I"⟩ method_8_code false [(0, 10, 13, 13, [0]), (0, 10, 17, 38, [3])] sL_101 = true := by decide +kernel
/-- GuardNet.letter(II)I -/
theorem sK_102 : sx_chkM 80 s_ex s_nc s_hn ⟨"GuardNet", "letter", "(II)I"⟩ prog_1_method_8_code 5 (some .int) 2 false sL_102 [] [1054, 79] = true := by decide +kernel
theorem sC_102 : sx_chkL s_cl s_tf s_nt s_zs s_ks s_mt s_ex s_exn ⟨"GuardNet", "letter", "(II)I"⟩ prog_1_method_8_code false [] sL_102 = true := by decide +kernel
/-- GuardNet.spell(LGuardNet$Node;I)V -/
theorem sK_104 : sx_chkM 80 s_ex s_nc s_hn ⟨"GuardNet", "spell", "(LGuardNet$Node;I)V"⟩ prog_1_method_9_code 5 none 2 false sL_104 [] [1306, 79] = true := by decide +kernel
theorem sC_104 : sx_chkL s_cl s_tf s_nt s_zs s_ks s_mt s_ex s_exn ⟨"GuardNet", "spell", "(LGuardNet$Node;I)V"⟩ prog_1_method_9_code false [] sL_104 = true := by decide +kernel
/-- GuardNetLaw.sleeping(LGuardNet;I[J)I -/
theorem sK_105 : sx_chkM 80 s_ex s_nc s_hn ⟨"GuardNetLaw", "sleeping", "(LGuardNet;I[J)I"⟩ method_9_code 4 (some .int) 3 false sL_105 [(0, 9, 12, 13, [0])] [1343, 78] = true := by decide +kernel
theorem sC_105 : sx_chkL s_cl s_tf s_nt s_zs s_ks s_mt s_ex s_exn ⟨"GuardNetLaw", "sleeping", "(LGuardNet;I[J)I"⟩ method_9_code false [(0, 9, 12, 13, [0])] sL_105 = true := by decide +kernel
/-- GuardNet.sleeping(I)I -/
theorem sK_106 : sx_chkM 80 s_ex s_nc s_hn ⟨"GuardNet", "sleeping", "(I)I"⟩ prog_1_method_10_code 3 (some .int) 1 false sL_106 [] [1347, 79] = true := by decide +kernel
theorem sC_106 : sx_chkL s_cl s_tf s_nt s_zs s_ks s_mt s_ex s_exn ⟨"GuardNet", "sleeping", "(I)I"⟩ prog_1_method_10_code false [] sL_106 = true := by decide +kernel
