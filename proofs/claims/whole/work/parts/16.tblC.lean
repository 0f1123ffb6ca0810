/-- GuardNet.<init>()V -/
theorem sK_0 : sx_chkM s_cl s_tf s_nt s_zs s_ks s_mt 80 ⟨"GuardNet", "<init>", "()V"⟩ prog_1_method_1_code 1 none 0 true sL_0 = true := by decide +kernel
/-- GuardNet$Reader.<init>()V -/
theorem sK_1 : sx_chkM s_cl s_tf s_nt s_zs s_ks s_mt 80 ⟨"GuardNet$Reader", "<init>", "()V"⟩ prog_8_method_1_code 1 none 0 true sL_1 = true := by decide +kernel
/-- GuardNet$Network.<init>()V -/
theorem sK_2 : sx_chkM s_cl s_tf s_nt s_zs s_ks s_mt 80 ⟨"GuardNet$Network", "<init>", "()V"⟩ prog_5_method_1_code 2 none 0 true sL_2 = true := by decide +kernel
/-- GuardNet$Use.<init>()V -/
theorem sK_3 : sx_chkM s_cl s_tf s_nt s_zs s_ks s_mt 80 ⟨"GuardNet$Use", "<init>", "()V"⟩ prog_12_method_1_code 1 none 0 true sL_3 = true := by decide +kernel
