/-! A TRIAL: a constructor by the rules, with a script that isn't known -/
set_option maxRecDepth 4000 in
theorem s_x1 (xs : Nat → Int32) : sx_wp 2 s_ft s_df s_tf s_cst s_zs s_ks s_mt 12 sM_1 0 [(0, .ref 2)] [] (s_h0 3 xs ++ [.inr (.inl (1, s_df 1))]) 0 0 (fun v _ dc ds => v = .inl none ∧ dc = 1 ∧ ds = 48) := by
  repeat (first | refine sx_wp.step rfl rfl rfl ?_ | refine sx_wp.obj rfl rfl rfl (by decide) ?_)
  exact sx_wp.stop rfl rfl rfl ⟨rfl, rfl, rfl⟩
