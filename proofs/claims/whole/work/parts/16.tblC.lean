/-- GuardNet.<init>()V -/
theorem sK_0 : sx_chkM 80 s_ex s_nc s_hn ⟨"GuardNet", "<init>", "()V"⟩ prog_1_method_1_code 1 none 0 true sL_0 [] [118, 79] = true := by decide +kernel
theorem sC_0 : sx_chkL s_cl s_tf s_nt s_zs s_ks s_mt s_ex s_exn ⟨"GuardNet", "<init>", "()V"⟩ prog_1_method_1_code true [] sL_0 = true := by decide +kernel
/-- the law -/
theorem sK_law : sx_chkM 80 s_ex s_nc s_hn x code maxLocals ret 1 false sL_law [] [0, 78] = true := by decide +kernel
theorem sC_law_0 : sx_chkL s_cl s_tf s_nt s_zs s_ks s_mt s_ex s_exn x code false [] sL_law_0 = true := by decide +kernel
theorem sC_law_1 : sx_chkL s_cl s_tf s_nt s_zs s_ks s_mt s_ex s_exn x code false [] sL_law_1 = true := by decide +kernel
theorem sC_law_2 : sx_chkL s_cl s_tf s_nt s_zs s_ks s_mt s_ex s_exn x code false [] sL_law_2 = true := by decide +kernel
theorem sC_law_3 : sx_chkL s_cl s_tf s_nt s_zs s_ks s_mt s_ex s_exn x code false [] sL_law_3 = true := by decide +kernel
theorem sC_law_4 : sx_chkL s_cl s_tf s_nt s_zs s_ks s_mt s_ex s_exn x code false [] sL_law_4 = true := by decide +kernel
theorem sC_law_5 : sx_chkL s_cl s_tf s_nt s_zs s_ks s_mt s_ex s_exn x code false [] sL_law_5 = true := by decide +kernel
theorem sC_law_6 : sx_chkL s_cl s_tf s_nt s_zs s_ks s_mt s_ex s_exn x code false [] sL_law_6 = true := by decide +kernel
theorem sC_law_7 : sx_chkL s_cl s_tf s_nt s_zs s_ks s_mt s_ex s_exn x code false [] sL_law_7 = true := by decide +kernel
theorem sC_law : sx_chkL s_cl s_tf s_nt s_zs s_ks s_mt s_ex s_exn x code false [] sL_law = true := by
  unfold sx_chkL sL_law
  simp only [List.all_append, Bool.and_eq_true]
  exact ⟨sC_law_0, sC_law_1, sC_law_2, sC_law_3, sC_law_4, sC_law_5, sC_law_6, sC_law_7⟩
