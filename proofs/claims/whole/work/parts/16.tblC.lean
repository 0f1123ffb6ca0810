/-- GuardNet.<init>()V -/
theorem sK_0 : sx_chkM s_cl s_tf s_nt s_zs s_ks s_mt 80 ⟨"GuardNet", "<init>", "()V"⟩ prog_1_method_1_code 1 none 0 true sL_0 = true := by decide +kernel
/-- GuardNet$Reader.<init>()V -/
theorem sK_1 : sx_chkM s_cl s_tf s_nt s_zs s_ks s_mt 80 ⟨"GuardNet$Reader", "<init>", "()V"⟩ prog_8_method_1_code 1 none 0 true sL_1 = true := by decide +kernel
/-- GuardNet$Network.<init>()V -/
theorem sK_2 : sx_chkM s_cl s_tf s_nt s_zs s_ks s_mt 80 ⟨"GuardNet$Network", "<init>", "()V"⟩ prog_5_method_1_code 2 none 0 true sL_2 = true := by decide +kernel
/-- GuardNet$Use.<init>()V -/
theorem sK_3 : sx_chkM s_cl s_tf s_nt s_zs s_ks s_mt 80 ⟨"GuardNet$Use", "<init>", "()V"⟩ prog_12_method_1_code 1 none 0 true sL_3 = true := by decide +kernel
/-- java/lang/StringBuilder.<init>()V -/
theorem sK_156 : sx_chkM s_cl s_tf s_nt s_zs s_ks s_mt 80 ⟨"java/lang/StringBuilder", "<init>", "()V"⟩ prog_26_method_1_code 1 none 0 true sL_156 = true := by decide +kernel
/-- java/lang/AbstractStringBuilder.<init>(I)V -/
theorem sK_157 : sx_chkM s_cl s_tf s_nt s_zs s_ks s_mt 80 ⟨"java/lang/AbstractStringBuilder", "<init>", "(I)V"⟩ prog_16_method_2_code 2 none 1 true sL_157 = true := by decide +kernel
/-- java/util/ArrayList.<init>()V -/
theorem sK_153 : sx_chkM s_cl s_tf s_nt s_zs s_ks s_mt 80 ⟨"java/util/ArrayList", "<init>", "()V"⟩ prog_34_method_2_code 1 none 0 true sL_153 = true := by decide +kernel
/-- java/util/AbstractList.<init>()V -/
theorem sK_154 : sx_chkM s_cl s_tf s_nt s_zs s_ks s_mt 80 ⟨"java/util/AbstractList", "<init>", "()V"⟩ prog_33_method_1_code 1 none 0 true sL_154 = true := by decide +kernel
/-- java/util/AbstractCollection.<init>()V -/
theorem sK_155 : sx_chkM s_cl s_tf s_nt s_zs s_ks s_mt 80 ⟨"java/util/AbstractCollection", "<init>", "()V"⟩ prog_32_method_1_code 1 none 0 true sL_155 = true := by decide +kernel
/-- java/util/ArrayList.size()I -/
theorem sK_158 : sx_chkM s_cl s_tf s_nt s_zs s_ks s_mt 80 ⟨"java/util/ArrayList", "size", "()I"⟩ prog_34_method_8_code 1 (some .int) 0 false sL_158 = true := by decide +kernel
