/-- GuardNet$Network.put(LGuardNet$Item;I)I -/
theorem sK_55 : sx_chkM 80 s_ex s_nc s_hn ⟨"GuardNet$Network", "put", "(LGuardNet$Item;I)I"⟩ prog_5_method_14_code 7 (some .int) 2 false sL_55 [] [771, 84] = true := by decide +kernel
theorem sC_55 : sx_chkL s_cl s_tf s_nt s_zs s_ks s_mt s_ex s_exn ⟨"GuardNet$Network", "put", "(LGuardNet$Item;I)I"⟩ prog_5_method_14_code false [] sL_55 = true := by decide +kernel
