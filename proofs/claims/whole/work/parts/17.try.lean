def s_cst (k t : Nat) : Bool := match k with
  | 0 => decide (4 ≤ t) && decide (t < 9)
  | ci + 1 => (ci == 6 && t == 5) || (ci == 10 && t == 6) || (ci == 11 && t == 7) || (ci == 7 && t == 8)
def s_h0 (L : Nat) (xs : Nat → Int32) : sx_H := [.inl (0, (L, .inl xs)), .inl (4, (0, .inr (.inr (.inr (.inr (fun _ => none))))))]
theorem s_try1 : ((sx_run 2 s_ft s_df s_tf s_cst s_zs s_ks s_mt 1000 10 sM_101 0 [(0, .ref 2)] [] (s_h0 0 (fun _ => 0) ++ [.inr (.inl (12, s_df 12))])).map (fun r => (r.2.2.1, r.2.2.2))).isSome = true := by decide +kernel
theorem s_t1 : (sx_run 2 s_ft s_df s_tf s_cst s_zs s_ks s_mt 3000 12 sM_1 0 [(0, .ref 2)] [] (s_h0 0 (fun _ => 0) ++ [.inr (.inl (1, s_df 1))])).isSome = true := by decide +kernel
theorem s_t2 : (sx_run 2 s_ft s_df s_tf s_cst s_zs s_ks s_mt 3000 12 sM_2 0 [(0, .ref 2)] [] (s_h0 0 (fun _ => 0) ++ [.inr (.inl (2, s_df 2))])).isSome = true := by decide +kernel
theorem s_t3 : (sx_run 2 s_ft s_df s_tf s_cst s_zs s_ks s_mt 3000 12 sM_3 0 [(0, .ref 2)] [] (s_h0 0 (fun _ => 0) ++ [.inr (.inl (3, s_df 3))])).isSome = true := by decide +kernel
theorem s_t4 : (sx_run 2 s_ft s_df s_tf s_cst s_zs s_ks s_mt 3000 12 sM_4 0 [(0, .ref 2)] [] (s_h0 0 (fun _ => 0) ++ [.inr (.inl (4, s_df 4))])).isSome = true := by decide +kernel
theorem s_t5 : (sx_run 2 s_ft s_df s_tf s_cst s_zs s_ks s_mt 3000 12 sM_5 0 [(0, .ref 2)] [] (s_h0 0 (fun _ => 0) ++ [.inr (.inl (5, s_df 5))])).isSome = true := by decide +kernel
theorem s_t6 : (sx_run 2 s_ft s_df s_tf s_cst s_zs s_ks s_mt 3000 12 sM_6 0 [(0, .ref 2)] [] (s_h0 0 (fun _ => 0) ++ [.inr (.inl (6, s_df 6))])).isSome = true := by decide +kernel
theorem s_t56 : (sx_run 2 s_ft s_df s_tf s_cst s_zs s_ks s_mt 3000 12 sM_56 0 [(0, .ref 2)] [] (s_h0 0 (fun _ => 0) ++ [.inr (.inl (10, s_df 10))])).isSome = true := by decide +kernel
theorem s_t59 : (sx_run 2 s_ft s_df s_tf s_cst s_zs s_ks s_mt 3000 12 sM_59 0 [(0, .ref 2)] [] (s_h0 0 (fun _ => 0) ++ [.inr (.inl (11, s_df 11))])).isSome = true := by decide +kernel
theorem s_t153 : (sx_run 2 s_ft s_df s_tf s_cst s_zs s_ks s_mt 3000 12 sM_153 0 [(0, .ref 2)] [] (s_h0 0 (fun _ => 0) ++ [.inr (.inl (13, s_df 13))])).isSome = true := by decide +kernel
theorem s_t156 : (sx_run 2 s_ft s_df s_tf s_cst s_zs s_ks s_mt 3000 12 sM_156 0 [(0, .ref 2)] [] (s_h0 0 (fun _ => 0) ++ [.inr (.inl (14, s_df 14))])).isSome = true := by decide +kernel
