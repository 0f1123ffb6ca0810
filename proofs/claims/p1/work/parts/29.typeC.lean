/-! TYPE: the law's case (by program: wip/sx/gen_p1_type.py) -/
set_option maxRecDepth 20000 in
set_option maxHeartbeats 4000000 in
theorem ty_mb_0 (xs : Nat → Int32) (n c : Int32) : s_wp 19 sM_110 9 [(5, .int (-8)), (6, .int c), (4, .int 0), (3, .int n), (0, .ref 30), (1, .long (ty_e xs))] [] (sH_127 3 xs) 61 146547 (s_kont 19 sM_law 136 [(5, .int 1), (4, .int 0), (3, .ref 61), (2, .ref 30), (1, .ref 2), (0, .ref 0)] [] (.invokevirtual 54) s_fin) := by
  refine w_mv (pc1 := 11) (st1 := [.int (-8)]) rfl rfl rfl ?_
  refine w_mv (pc1 := 59) (st1 := []) rfl rfl rfl ?_
  refine w_mv (pc1 := 60) (st1 := [.ref 30]) rfl rfl rfl ?_
  refine w_mv (pc1 := 62) (st1 := [.int 0, .ref 30]) rfl rfl rfl ?_
  refine w_call (M' := sM_112) (vals := [.ref 30, .int 0]) (rest := []) (lv' := [(0, .ref 30), (1, .int 0)]) rfl rfl rfl rfl rfl rfl rfl rfl rfl rfl ?_
  refine w_mv (pc1 := 1) (st1 := [.ref 30]) rfl rfl rfl ?_
  refine w_mv (pc1 := 2) (st1 := [.int 0, .ref 30]) rfl rfl rfl ?_
  refine w_mv (pc1 := 9) (st1 := [.ref 30]) rfl rfl rfl ?_
  refine w_mv (pc1 := 10) (st1 := [.int 1, .ref 30]) rfl rfl rfl ?_
  refine w_st (pc1 := 13) (st1 := []) (hs1 := sH_128 3 xs) (dc1 := 0) (ds1 := 0) (dc2 := 61) (ds2 := 146547) rfl rfl rfl rfl rfl ?_
  refine w_mv (pc1 := 14) (st1 := [.int 0]) rfl rfl rfl ?_
  refine w_mv (pc1 := 17) (st1 := []) rfl rfl rfl ?_
  refine w_mv (pc1 := 18) (st1 := [.int 1]) rfl rfl rfl ?_
  refine w_mv (pc1 := 22) (st1 := [.int 1]) rfl rfl rfl ?_
  refine w_iret (pc1 := 65) rfl rfl rfl rfl ?_
  refine w_mv (pc1 := 68) (st1 := []) rfl rfl rfl ?_
  refine w_mv (pc1 := 69) (st1 := [.int 0]) rfl rfl rfl ?_
  refine w_iret (pc1 := 139) rfl rfl rfl rfl ?_
  refine w_mv (pc1 := 141) (lv1 := [(6, .int 0), (5, .int 1), (4, .int 0), (3, .ref 61), (2, .ref 30), (1, .ref 2), (0, .ref 0)]) (st1 := []) rfl rfl rfl ?_
  refine w_mv (pc1 := 142) (st1 := [.ref 30]) rfl rfl rfl ?_
  refine w_call (M' := sM_109) (vals := [.ref 30]) (rest := []) (lv' := [(0, .ref 30)]) rfl rfl rfl rfl rfl rfl rfl rfl rfl rfl ?_
  refine w_mv (pc1 := 1) (st1 := [.ref 30]) rfl rfl rfl ?_
  refine w_mv (pc1 := 4) (st1 := [.int 1]) rfl rfl rfl ?_
  refine w_iret (pc1 := 145) rfl rfl rfl rfl ?_
  refine w_mv (pc1 := 147) (st1 := [.int 1, .int 1]) rfl rfl rfl ?_
  refine w_mv (pc1 := 152) (st1 := []) rfl rfl rfl ?_
  refine w_mv (pc1 := 154) (st1 := [.int 1]) rfl rfl rfl ?_
  refine w_mv (pc1 := 169) (st1 := []) rfl rfl rfl ?_
  refine w_mv (pc1 := 501) (st1 := []) rfl rfl rfl ?_
  refine w_mv (pc1 := 504) (lv1 := [(4, .int 3), (6, .int 0), (5, .int 1), (3, .ref 61), (2, .ref 30), (1, .ref 2), (0, .ref 0)]) (st1 := []) rfl rfl rfl ?_
  refine w_mv (pc1 := 23) (st1 := []) rfl rfl rfl ?_
  refine w_mv (pc1 := 25) (st1 := [.int 3]) rfl rfl rfl ?_
  refine w_mv (pc1 := 26) (st1 := [.ref 0, .int 3]) rfl rfl rfl ?_
  refine w_mv (pc1 := 27) (st1 := [.int 3, .int 3]) rfl rfl rfl ?_
  refine w_mv (pc1 := 28) (st1 := [.int 3, .int 3, .int 3]) rfl rfl rfl ?_
  refine w_mv (pc1 := 29) (st1 := [.int 0, .int 3]) rfl rfl rfl ?_
  refine w_mv (pc1 := 507) (st1 := []) rfl rfl rfl ?_
  refine w_mv (pc1 := 508) (st1 := [.int 1]) rfl rfl rfl ?_
  exact sx_wp.stop rfl rfl rfl ⟨rfl, by decide, by decide⟩
set_option maxRecDepth 20000 in
set_option maxHeartbeats 4000000 in
theorem ty_mb_1 (xs : Nat → Int32) (n c : Int32) : s_wp 19 sM_110 9 [(5, .int (-8)), (6, .int c), (3, .int n), (4, .int 0), (0, .ref 30), (1, .long (ty_e xs))] [] (sH_127 3 xs) 61 146547 (s_kont 19 sM_law 136 [(5, .int 1), (4, .int 0), (3, .ref 61), (2, .ref 30), (1, .ref 2), (0, .ref 0)] [] (.invokevirtual 54) s_fin) := by
  refine w_mv (pc1 := 11) (st1 := [.int (-8)]) rfl rfl rfl ?_
  refine w_mv (pc1 := 59) (st1 := []) rfl rfl rfl ?_
  refine w_mv (pc1 := 60) (st1 := [.ref 30]) rfl rfl rfl ?_
  refine w_mv (pc1 := 62) (st1 := [.int 0, .ref 30]) rfl rfl rfl ?_
  refine w_call (M' := sM_112) (vals := [.ref 30, .int 0]) (rest := []) (lv' := [(0, .ref 30), (1, .int 0)]) rfl rfl rfl rfl rfl rfl rfl rfl rfl rfl ?_
  refine w_mv (pc1 := 1) (st1 := [.ref 30]) rfl rfl rfl ?_
  refine w_mv (pc1 := 2) (st1 := [.int 0, .ref 30]) rfl rfl rfl ?_
  refine w_mv (pc1 := 9) (st1 := [.ref 30]) rfl rfl rfl ?_
  refine w_mv (pc1 := 10) (st1 := [.int 1, .ref 30]) rfl rfl rfl ?_
  refine w_st (pc1 := 13) (st1 := []) (hs1 := sH_128 3 xs) (dc1 := 0) (ds1 := 0) (dc2 := 61) (ds2 := 146547) rfl rfl rfl rfl rfl ?_
  refine w_mv (pc1 := 14) (st1 := [.int 0]) rfl rfl rfl ?_
  refine w_mv (pc1 := 17) (st1 := []) rfl rfl rfl ?_
  refine w_mv (pc1 := 18) (st1 := [.int 1]) rfl rfl rfl ?_
  refine w_mv (pc1 := 22) (st1 := [.int 1]) rfl rfl rfl ?_
  refine w_iret (pc1 := 65) rfl rfl rfl rfl ?_
  refine w_mv (pc1 := 68) (st1 := []) rfl rfl rfl ?_
  refine w_mv (pc1 := 69) (st1 := [.int 0]) rfl rfl rfl ?_
  refine w_iret (pc1 := 139) rfl rfl rfl rfl ?_
  refine w_mv (pc1 := 141) (lv1 := [(6, .int 0), (5, .int 1), (4, .int 0), (3, .ref 61), (2, .ref 30), (1, .ref 2), (0, .ref 0)]) (st1 := []) rfl rfl rfl ?_
  refine w_mv (pc1 := 142) (st1 := [.ref 30]) rfl rfl rfl ?_
  refine w_call (M' := sM_109) (vals := [.ref 30]) (rest := []) (lv' := [(0, .ref 30)]) rfl rfl rfl rfl rfl rfl rfl rfl rfl rfl ?_
  refine w_mv (pc1 := 1) (st1 := [.ref 30]) rfl rfl rfl ?_
  refine w_mv (pc1 := 4) (st1 := [.int 1]) rfl rfl rfl ?_
  refine w_iret (pc1 := 145) rfl rfl rfl rfl ?_
  refine w_mv (pc1 := 147) (st1 := [.int 1, .int 1]) rfl rfl rfl ?_
  refine w_mv (pc1 := 152) (st1 := []) rfl rfl rfl ?_
  refine w_mv (pc1 := 154) (st1 := [.int 1]) rfl rfl rfl ?_
  refine w_mv (pc1 := 169) (st1 := []) rfl rfl rfl ?_
  refine w_mv (pc1 := 501) (st1 := []) rfl rfl rfl ?_
  refine w_mv (pc1 := 504) (lv1 := [(4, .int 3), (6, .int 0), (5, .int 1), (3, .ref 61), (2, .ref 30), (1, .ref 2), (0, .ref 0)]) (st1 := []) rfl rfl rfl ?_
  refine w_mv (pc1 := 23) (st1 := []) rfl rfl rfl ?_
  refine w_mv (pc1 := 25) (st1 := [.int 3]) rfl rfl rfl ?_
  refine w_mv (pc1 := 26) (st1 := [.ref 0, .int 3]) rfl rfl rfl ?_
  refine w_mv (pc1 := 27) (st1 := [.int 3, .int 3]) rfl rfl rfl ?_
  refine w_mv (pc1 := 28) (st1 := [.int 3, .int 3, .int 3]) rfl rfl rfl ?_
  refine w_mv (pc1 := 29) (st1 := [.int 0, .int 3]) rfl rfl rfl ?_
  refine w_mv (pc1 := 507) (st1 := []) rfl rfl rfl ?_
  refine w_mv (pc1 := 508) (st1 := [.int 1]) rfl rfl rfl ?_
  exact sx_wp.stop rfl rfl rfl ⟨rfl, by decide, by decide⟩
set_option maxRecDepth 20000 in
set_option maxHeartbeats 4000000 in
theorem ty_mb_2 (xs : Nat → Int32) (n c : Int32) : s_wp 19 sM_110 9 [(5, .int (-8)), (3, .int n), (6, .int c), (4, .int 0), (0, .ref 30), (1, .long (ty_e xs))] [] (sH_127 3 xs) 61 146547 (s_kont 19 sM_law 136 [(5, .int 1), (4, .int 0), (3, .ref 61), (2, .ref 30), (1, .ref 2), (0, .ref 0)] [] (.invokevirtual 54) s_fin) := by
  refine w_mv (pc1 := 11) (st1 := [.int (-8)]) rfl rfl rfl ?_
  refine w_mv (pc1 := 59) (st1 := []) rfl rfl rfl ?_
  refine w_mv (pc1 := 60) (st1 := [.ref 30]) rfl rfl rfl ?_
  refine w_mv (pc1 := 62) (st1 := [.int 0, .ref 30]) rfl rfl rfl ?_
  refine w_call (M' := sM_112) (vals := [.ref 30, .int 0]) (rest := []) (lv' := [(0, .ref 30), (1, .int 0)]) rfl rfl rfl rfl rfl rfl rfl rfl rfl rfl ?_
  refine w_mv (pc1 := 1) (st1 := [.ref 30]) rfl rfl rfl ?_
  refine w_mv (pc1 := 2) (st1 := [.int 0, .ref 30]) rfl rfl rfl ?_
  refine w_mv (pc1 := 9) (st1 := [.ref 30]) rfl rfl rfl ?_
  refine w_mv (pc1 := 10) (st1 := [.int 1, .ref 30]) rfl rfl rfl ?_
  refine w_st (pc1 := 13) (st1 := []) (hs1 := sH_128 3 xs) (dc1 := 0) (ds1 := 0) (dc2 := 61) (ds2 := 146547) rfl rfl rfl rfl rfl ?_
  refine w_mv (pc1 := 14) (st1 := [.int 0]) rfl rfl rfl ?_
  refine w_mv (pc1 := 17) (st1 := []) rfl rfl rfl ?_
  refine w_mv (pc1 := 18) (st1 := [.int 1]) rfl rfl rfl ?_
  refine w_mv (pc1 := 22) (st1 := [.int 1]) rfl rfl rfl ?_
  refine w_iret (pc1 := 65) rfl rfl rfl rfl ?_
  refine w_mv (pc1 := 68) (st1 := []) rfl rfl rfl ?_
  refine w_mv (pc1 := 69) (st1 := [.int 0]) rfl rfl rfl ?_
  refine w_iret (pc1 := 139) rfl rfl rfl rfl ?_
  refine w_mv (pc1 := 141) (lv1 := [(6, .int 0), (5, .int 1), (4, .int 0), (3, .ref 61), (2, .ref 30), (1, .ref 2), (0, .ref 0)]) (st1 := []) rfl rfl rfl ?_
  refine w_mv (pc1 := 142) (st1 := [.ref 30]) rfl rfl rfl ?_
  refine w_call (M' := sM_109) (vals := [.ref 30]) (rest := []) (lv' := [(0, .ref 30)]) rfl rfl rfl rfl rfl rfl rfl rfl rfl rfl ?_
  refine w_mv (pc1 := 1) (st1 := [.ref 30]) rfl rfl rfl ?_
  refine w_mv (pc1 := 4) (st1 := [.int 1]) rfl rfl rfl ?_
  refine w_iret (pc1 := 145) rfl rfl rfl rfl ?_
  refine w_mv (pc1 := 147) (st1 := [.int 1, .int 1]) rfl rfl rfl ?_
  refine w_mv (pc1 := 152) (st1 := []) rfl rfl rfl ?_
  refine w_mv (pc1 := 154) (st1 := [.int 1]) rfl rfl rfl ?_
  refine w_mv (pc1 := 169) (st1 := []) rfl rfl rfl ?_
  refine w_mv (pc1 := 501) (st1 := []) rfl rfl rfl ?_
  refine w_mv (pc1 := 504) (lv1 := [(4, .int 3), (6, .int 0), (5, .int 1), (3, .ref 61), (2, .ref 30), (1, .ref 2), (0, .ref 0)]) (st1 := []) rfl rfl rfl ?_
  refine w_mv (pc1 := 23) (st1 := []) rfl rfl rfl ?_
  refine w_mv (pc1 := 25) (st1 := [.int 3]) rfl rfl rfl ?_
  refine w_mv (pc1 := 26) (st1 := [.ref 0, .int 3]) rfl rfl rfl ?_
  refine w_mv (pc1 := 27) (st1 := [.int 3, .int 3]) rfl rfl rfl ?_
  refine w_mv (pc1 := 28) (st1 := [.int 3, .int 3, .int 3]) rfl rfl rfl ?_
  refine w_mv (pc1 := 29) (st1 := [.int 0, .int 3]) rfl rfl rfl ?_
  refine w_mv (pc1 := 507) (st1 := []) rfl rfl rfl ?_
  refine w_mv (pc1 := 508) (st1 := [.int 1]) rfl rfl rfl ?_
  exact sx_wp.stop rfl rfl rfl ⟨rfl, by decide, by decide⟩
set_option maxRecDepth 20000 in
set_option maxHeartbeats 4000000 in
theorem ty_mb_3 (xs : Nat → Int32) (n c : Int32) : s_wp 19 sM_110 9 [(5, .int (-8)), (4, .int 0), (3, .int n), (6, .int c), (0, .ref 30), (1, .long (ty_e xs))] [] (sH_127 3 xs) 61 146547 (s_kont 19 sM_law 136 [(5, .int 1), (4, .int 0), (3, .ref 61), (2, .ref 30), (1, .ref 2), (0, .ref 0)] [] (.invokevirtual 54) s_fin) := by
  refine w_mv (pc1 := 11) (st1 := [.int (-8)]) rfl rfl rfl ?_
  refine w_mv (pc1 := 59) (st1 := []) rfl rfl rfl ?_
  refine w_mv (pc1 := 60) (st1 := [.ref 30]) rfl rfl rfl ?_
  refine w_mv (pc1 := 62) (st1 := [.int 0, .ref 30]) rfl rfl rfl ?_
  refine w_call (M' := sM_112) (vals := [.ref 30, .int 0]) (rest := []) (lv' := [(0, .ref 30), (1, .int 0)]) rfl rfl rfl rfl rfl rfl rfl rfl rfl rfl ?_
  refine w_mv (pc1 := 1) (st1 := [.ref 30]) rfl rfl rfl ?_
  refine w_mv (pc1 := 2) (st1 := [.int 0, .ref 30]) rfl rfl rfl ?_
  refine w_mv (pc1 := 9) (st1 := [.ref 30]) rfl rfl rfl ?_
  refine w_mv (pc1 := 10) (st1 := [.int 1, .ref 30]) rfl rfl rfl ?_
  refine w_st (pc1 := 13) (st1 := []) (hs1 := sH_128 3 xs) (dc1 := 0) (ds1 := 0) (dc2 := 61) (ds2 := 146547) rfl rfl rfl rfl rfl ?_
  refine w_mv (pc1 := 14) (st1 := [.int 0]) rfl rfl rfl ?_
  refine w_mv (pc1 := 17) (st1 := []) rfl rfl rfl ?_
  refine w_mv (pc1 := 18) (st1 := [.int 1]) rfl rfl rfl ?_
  refine w_mv (pc1 := 22) (st1 := [.int 1]) rfl rfl rfl ?_
  refine w_iret (pc1 := 65) rfl rfl rfl rfl ?_
  refine w_mv (pc1 := 68) (st1 := []) rfl rfl rfl ?_
  refine w_mv (pc1 := 69) (st1 := [.int 0]) rfl rfl rfl ?_
  refine w_iret (pc1 := 139) rfl rfl rfl rfl ?_
  refine w_mv (pc1 := 141) (lv1 := [(6, .int 0), (5, .int 1), (4, .int 0), (3, .ref 61), (2, .ref 30), (1, .ref 2), (0, .ref 0)]) (st1 := []) rfl rfl rfl ?_
  refine w_mv (pc1 := 142) (st1 := [.ref 30]) rfl rfl rfl ?_
  refine w_call (M' := sM_109) (vals := [.ref 30]) (rest := []) (lv' := [(0, .ref 30)]) rfl rfl rfl rfl rfl rfl rfl rfl rfl rfl ?_
  refine w_mv (pc1 := 1) (st1 := [.ref 30]) rfl rfl rfl ?_
  refine w_mv (pc1 := 4) (st1 := [.int 1]) rfl rfl rfl ?_
  refine w_iret (pc1 := 145) rfl rfl rfl rfl ?_
  refine w_mv (pc1 := 147) (st1 := [.int 1, .int 1]) rfl rfl rfl ?_
  refine w_mv (pc1 := 152) (st1 := []) rfl rfl rfl ?_
  refine w_mv (pc1 := 154) (st1 := [.int 1]) rfl rfl rfl ?_
  refine w_mv (pc1 := 169) (st1 := []) rfl rfl rfl ?_
  refine w_mv (pc1 := 501) (st1 := []) rfl rfl rfl ?_
  refine w_mv (pc1 := 504) (lv1 := [(4, .int 3), (6, .int 0), (5, .int 1), (3, .ref 61), (2, .ref 30), (1, .ref 2), (0, .ref 0)]) (st1 := []) rfl rfl rfl ?_
  refine w_mv (pc1 := 23) (st1 := []) rfl rfl rfl ?_
  refine w_mv (pc1 := 25) (st1 := [.int 3]) rfl rfl rfl ?_
  refine w_mv (pc1 := 26) (st1 := [.ref 0, .int 3]) rfl rfl rfl ?_
  refine w_mv (pc1 := 27) (st1 := [.int 3, .int 3]) rfl rfl rfl ?_
  refine w_mv (pc1 := 28) (st1 := [.int 3, .int 3, .int 3]) rfl rfl rfl ?_
  refine w_mv (pc1 := 29) (st1 := [.int 0, .int 3]) rfl rfl rfl ?_
  refine w_mv (pc1 := 507) (st1 := []) rfl rfl rfl ?_
  refine w_mv (pc1 := 508) (st1 := [.int 1]) rfl rfl rfl ?_
  exact sx_wp.stop rfl rfl rfl ⟨rfl, by decide, by decide⟩
theorem ty_mb (xs : Nat → Int32) (n c : Int32) : ∀ o : Nat, s_wp 19 sM_110 9 (ty_lvm o (-8) n 0 c (ty_e xs)) [] (sH_127 3 xs) 61 146547 (s_kont 19 sM_law 136 [(5, .int 1), (4, .int 0), (3, .ref 61), (2, .ref 30), (1, .ref 2), (0, .ref 0)] [] (.invokevirtual 54) s_fin)
  | 0 => ty_mb_0 xs n c
  | 1 => ty_mb_1 xs n c
  | 2 => ty_mb_2 xs n c
  | _ + 3 => ty_mb_3 xs n c
set_option maxRecDepth 20000 in
set_option maxHeartbeats 4000000 in
theorem ty_me_0 (xs : Nat → Int32) (fc : Nat → Int32) (n : Int32) (g : Nat → Int32) (c : Int32) : s_wp 19 sM_110 91 [(5, .int (-8)), (6, .int c), (4, .int 1), (3, .int n), (0, .ref 30), (1, .long (ty_e xs))] [] (ty_H xs (ty_cnt (ty_e xs) 8) fc (vp_updL (fun _ => 0) 0 (Int32.toInt64 (ty_cnt (ty_e xs) 8))) (ty_cnt (ty_e xs) 8) g) 60 146541 (s_kont 19 sM_law 136 [(5, .int 0), (4, .int 0), (3, .ref 61), (2, .ref 30), (1, .ref 2), (0, .ref 0)] [] (.invokevirtual 54) s_fin) := by
  refine w_mv (pc1 := 93) (st1 := [.int (-8)]) rfl rfl rfl ?_
  refine w_mv (pc1 := 142) (st1 := []) rfl rfl rfl ?_
  refine w_mv (pc1 := 143) (st1 := [.ref 30]) rfl rfl rfl ?_
  refine w_mv (pc1 := 146) (st1 := [.int (ty_cnt (ty_e xs) 8)]) rfl rfl rfl ?_
  refine w_iret (pc1 := 139) rfl rfl rfl rfl ?_
  refine w_mv (pc1 := 141) (lv1 := [(6, .int (ty_cnt (ty_e xs) 8)), (5, .int 0), (4, .int 0), (3, .ref 61), (2, .ref 30), (1, .ref 2), (0, .ref 0)]) (st1 := []) rfl rfl rfl ?_
  refine w_mv (pc1 := 142) (st1 := [.ref 30]) rfl rfl rfl ?_
  refine w_call (M' := sM_109) (vals := [.ref 30]) (rest := []) (lv' := [(0, .ref 30)]) rfl rfl rfl rfl rfl rfl rfl rfl rfl rfl ?_
  refine w_mv (pc1 := 1) (st1 := [.ref 30]) rfl rfl rfl ?_
  refine w_mv (pc1 := 4) (st1 := [.int 0]) rfl rfl rfl ?_
  refine w_iret (pc1 := 145) rfl rfl rfl rfl ?_
  refine w_mv (pc1 := 147) (st1 := [.int 0, .int 0]) rfl rfl rfl ?_
  refine w_mv (pc1 := 152) (st1 := []) rfl rfl rfl ?_
  refine w_mv (pc1 := 154) (st1 := [.int 0]) rfl rfl rfl ?_
  refine w_mv (pc1 := 157) (st1 := []) rfl rfl rfl ?_
  refine w_mv (pc1 := 158) (st1 := [.ref 61]) rfl rfl rfl ?_
  refine w_mv (pc1 := 159) (st1 := [.int 0, .ref 61]) rfl rfl rfl ?_
  refine w_mv (pc1 := 160) (st1 := [.long (Int32.toInt64 (ty_cnt (ty_e xs) 8))]) rfl rfl rfl ?_
  refine w_mv (pc1 := 162) (st1 := [.int (ty_cnt (ty_e xs) 8), .long (Int32.toInt64 (ty_cnt (ty_e xs) 8))]) rfl rfl rfl ?_
  refine w_mv (pc1 := 163) (st1 := [.long (Int32.toInt64 (ty_cnt (ty_e xs) 8)), .long (Int32.toInt64 (ty_cnt (ty_e xs) 8))]) rfl rfl rfl ?_
  refine w_lcE (pc1 := 164) rfl rfl ?_
  refine w_mv (pc1 := 169) (st1 := []) rfl rfl rfl ?_
  refine w_mv (pc1 := 501) (st1 := []) rfl rfl rfl ?_
  refine w_mv (pc1 := 504) (lv1 := [(4, .int 3), (6, .int (ty_cnt (ty_e xs) 8)), (5, .int 0), (3, .ref 61), (2, .ref 30), (1, .ref 2), (0, .ref 0)]) (st1 := []) rfl rfl rfl ?_
  refine w_mv (pc1 := 23) (st1 := []) rfl rfl rfl ?_
  refine w_mv (pc1 := 25) (st1 := [.int 3]) rfl rfl rfl ?_
  refine w_mv (pc1 := 26) (st1 := [.ref 0, .int 3]) rfl rfl rfl ?_
  refine w_mv (pc1 := 27) (st1 := [.int 3, .int 3]) rfl rfl rfl ?_
  refine w_mv (pc1 := 28) (st1 := [.int 3, .int 3, .int 3]) rfl rfl rfl ?_
  refine w_mv (pc1 := 29) (st1 := [.int 0, .int 3]) rfl rfl rfl ?_
  refine w_mv (pc1 := 507) (st1 := []) rfl rfl rfl ?_
  refine w_mv (pc1 := 508) (st1 := [.int 1]) rfl rfl rfl ?_
  exact sx_wp.stop rfl rfl rfl ⟨rfl, by decide, by decide⟩
set_option maxRecDepth 20000 in
set_option maxHeartbeats 4000000 in
theorem ty_me_1 (xs : Nat → Int32) (fc : Nat → Int32) (n : Int32) (g : Nat → Int32) (c : Int32) : s_wp 19 sM_110 91 [(5, .int (-8)), (6, .int c), (3, .int n), (4, .int 1), (0, .ref 30), (1, .long (ty_e xs))] [] (ty_H xs (ty_cnt (ty_e xs) 8) fc (vp_updL (fun _ => 0) 0 (Int32.toInt64 (ty_cnt (ty_e xs) 8))) (ty_cnt (ty_e xs) 8) g) 60 146541 (s_kont 19 sM_law 136 [(5, .int 0), (4, .int 0), (3, .ref 61), (2, .ref 30), (1, .ref 2), (0, .ref 0)] [] (.invokevirtual 54) s_fin) := by
  refine w_mv (pc1 := 93) (st1 := [.int (-8)]) rfl rfl rfl ?_
  refine w_mv (pc1 := 142) (st1 := []) rfl rfl rfl ?_
  refine w_mv (pc1 := 143) (st1 := [.ref 30]) rfl rfl rfl ?_
  refine w_mv (pc1 := 146) (st1 := [.int (ty_cnt (ty_e xs) 8)]) rfl rfl rfl ?_
  refine w_iret (pc1 := 139) rfl rfl rfl rfl ?_
  refine w_mv (pc1 := 141) (lv1 := [(6, .int (ty_cnt (ty_e xs) 8)), (5, .int 0), (4, .int 0), (3, .ref 61), (2, .ref 30), (1, .ref 2), (0, .ref 0)]) (st1 := []) rfl rfl rfl ?_
  refine w_mv (pc1 := 142) (st1 := [.ref 30]) rfl rfl rfl ?_
  refine w_call (M' := sM_109) (vals := [.ref 30]) (rest := []) (lv' := [(0, .ref 30)]) rfl rfl rfl rfl rfl rfl rfl rfl rfl rfl ?_
  refine w_mv (pc1 := 1) (st1 := [.ref 30]) rfl rfl rfl ?_
  refine w_mv (pc1 := 4) (st1 := [.int 0]) rfl rfl rfl ?_
  refine w_iret (pc1 := 145) rfl rfl rfl rfl ?_
  refine w_mv (pc1 := 147) (st1 := [.int 0, .int 0]) rfl rfl rfl ?_
  refine w_mv (pc1 := 152) (st1 := []) rfl rfl rfl ?_
  refine w_mv (pc1 := 154) (st1 := [.int 0]) rfl rfl rfl ?_
  refine w_mv (pc1 := 157) (st1 := []) rfl rfl rfl ?_
  refine w_mv (pc1 := 158) (st1 := [.ref 61]) rfl rfl rfl ?_
  refine w_mv (pc1 := 159) (st1 := [.int 0, .ref 61]) rfl rfl rfl ?_
  refine w_mv (pc1 := 160) (st1 := [.long (Int32.toInt64 (ty_cnt (ty_e xs) 8))]) rfl rfl rfl ?_
  refine w_mv (pc1 := 162) (st1 := [.int (ty_cnt (ty_e xs) 8), .long (Int32.toInt64 (ty_cnt (ty_e xs) 8))]) rfl rfl rfl ?_
  refine w_mv (pc1 := 163) (st1 := [.long (Int32.toInt64 (ty_cnt (ty_e xs) 8)), .long (Int32.toInt64 (ty_cnt (ty_e xs) 8))]) rfl rfl rfl ?_
  refine w_lcE (pc1 := 164) rfl rfl ?_
  refine w_mv (pc1 := 169) (st1 := []) rfl rfl rfl ?_
  refine w_mv (pc1 := 501) (st1 := []) rfl rfl rfl ?_
  refine w_mv (pc1 := 504) (lv1 := [(4, .int 3), (6, .int (ty_cnt (ty_e xs) 8)), (5, .int 0), (3, .ref 61), (2, .ref 30), (1, .ref 2), (0, .ref 0)]) (st1 := []) rfl rfl rfl ?_
  refine w_mv (pc1 := 23) (st1 := []) rfl rfl rfl ?_
  refine w_mv (pc1 := 25) (st1 := [.int 3]) rfl rfl rfl ?_
  refine w_mv (pc1 := 26) (st1 := [.ref 0, .int 3]) rfl rfl rfl ?_
  refine w_mv (pc1 := 27) (st1 := [.int 3, .int 3]) rfl rfl rfl ?_
  refine w_mv (pc1 := 28) (st1 := [.int 3, .int 3, .int 3]) rfl rfl rfl ?_
  refine w_mv (pc1 := 29) (st1 := [.int 0, .int 3]) rfl rfl rfl ?_
  refine w_mv (pc1 := 507) (st1 := []) rfl rfl rfl ?_
  refine w_mv (pc1 := 508) (st1 := [.int 1]) rfl rfl rfl ?_
  exact sx_wp.stop rfl rfl rfl ⟨rfl, by decide, by decide⟩
set_option maxRecDepth 20000 in
set_option maxHeartbeats 4000000 in
theorem ty_me_2 (xs : Nat → Int32) (fc : Nat → Int32) (n : Int32) (g : Nat → Int32) (c : Int32) : s_wp 19 sM_110 91 [(5, .int (-8)), (3, .int n), (6, .int c), (4, .int 1), (0, .ref 30), (1, .long (ty_e xs))] [] (ty_H xs (ty_cnt (ty_e xs) 8) fc (vp_updL (fun _ => 0) 0 (Int32.toInt64 (ty_cnt (ty_e xs) 8))) (ty_cnt (ty_e xs) 8) g) 60 146541 (s_kont 19 sM_law 136 [(5, .int 0), (4, .int 0), (3, .ref 61), (2, .ref 30), (1, .ref 2), (0, .ref 0)] [] (.invokevirtual 54) s_fin) := by
  refine w_mv (pc1 := 93) (st1 := [.int (-8)]) rfl rfl rfl ?_
  refine w_mv (pc1 := 142) (st1 := []) rfl rfl rfl ?_
  refine w_mv (pc1 := 143) (st1 := [.ref 30]) rfl rfl rfl ?_
  refine w_mv (pc1 := 146) (st1 := [.int (ty_cnt (ty_e xs) 8)]) rfl rfl rfl ?_
  refine w_iret (pc1 := 139) rfl rfl rfl rfl ?_
  refine w_mv (pc1 := 141) (lv1 := [(6, .int (ty_cnt (ty_e xs) 8)), (5, .int 0), (4, .int 0), (3, .ref 61), (2, .ref 30), (1, .ref 2), (0, .ref 0)]) (st1 := []) rfl rfl rfl ?_
  refine w_mv (pc1 := 142) (st1 := [.ref 30]) rfl rfl rfl ?_
  refine w_call (M' := sM_109) (vals := [.ref 30]) (rest := []) (lv' := [(0, .ref 30)]) rfl rfl rfl rfl rfl rfl rfl rfl rfl rfl ?_
  refine w_mv (pc1 := 1) (st1 := [.ref 30]) rfl rfl rfl ?_
  refine w_mv (pc1 := 4) (st1 := [.int 0]) rfl rfl rfl ?_
  refine w_iret (pc1 := 145) rfl rfl rfl rfl ?_
  refine w_mv (pc1 := 147) (st1 := [.int 0, .int 0]) rfl rfl rfl ?_
  refine w_mv (pc1 := 152) (st1 := []) rfl rfl rfl ?_
  refine w_mv (pc1 := 154) (st1 := [.int 0]) rfl rfl rfl ?_
  refine w_mv (pc1 := 157) (st1 := []) rfl rfl rfl ?_
  refine w_mv (pc1 := 158) (st1 := [.ref 61]) rfl rfl rfl ?_
  refine w_mv (pc1 := 159) (st1 := [.int 0, .ref 61]) rfl rfl rfl ?_
  refine w_mv (pc1 := 160) (st1 := [.long (Int32.toInt64 (ty_cnt (ty_e xs) 8))]) rfl rfl rfl ?_
  refine w_mv (pc1 := 162) (st1 := [.int (ty_cnt (ty_e xs) 8), .long (Int32.toInt64 (ty_cnt (ty_e xs) 8))]) rfl rfl rfl ?_
  refine w_mv (pc1 := 163) (st1 := [.long (Int32.toInt64 (ty_cnt (ty_e xs) 8)), .long (Int32.toInt64 (ty_cnt (ty_e xs) 8))]) rfl rfl rfl ?_
  refine w_lcE (pc1 := 164) rfl rfl ?_
  refine w_mv (pc1 := 169) (st1 := []) rfl rfl rfl ?_
  refine w_mv (pc1 := 501) (st1 := []) rfl rfl rfl ?_
  refine w_mv (pc1 := 504) (lv1 := [(4, .int 3), (6, .int (ty_cnt (ty_e xs) 8)), (5, .int 0), (3, .ref 61), (2, .ref 30), (1, .ref 2), (0, .ref 0)]) (st1 := []) rfl rfl rfl ?_
  refine w_mv (pc1 := 23) (st1 := []) rfl rfl rfl ?_
  refine w_mv (pc1 := 25) (st1 := [.int 3]) rfl rfl rfl ?_
  refine w_mv (pc1 := 26) (st1 := [.ref 0, .int 3]) rfl rfl rfl ?_
  refine w_mv (pc1 := 27) (st1 := [.int 3, .int 3]) rfl rfl rfl ?_
  refine w_mv (pc1 := 28) (st1 := [.int 3, .int 3, .int 3]) rfl rfl rfl ?_
  refine w_mv (pc1 := 29) (st1 := [.int 0, .int 3]) rfl rfl rfl ?_
  refine w_mv (pc1 := 507) (st1 := []) rfl rfl rfl ?_
  refine w_mv (pc1 := 508) (st1 := [.int 1]) rfl rfl rfl ?_
  exact sx_wp.stop rfl rfl rfl ⟨rfl, by decide, by decide⟩
set_option maxRecDepth 20000 in
set_option maxHeartbeats 4000000 in
theorem ty_me_3 (xs : Nat → Int32) (fc : Nat → Int32) (n : Int32) (g : Nat → Int32) (c : Int32) : s_wp 19 sM_110 91 [(5, .int (-8)), (4, .int 1), (3, .int n), (6, .int c), (0, .ref 30), (1, .long (ty_e xs))] [] (ty_H xs (ty_cnt (ty_e xs) 8) fc (vp_updL (fun _ => 0) 0 (Int32.toInt64 (ty_cnt (ty_e xs) 8))) (ty_cnt (ty_e xs) 8) g) 60 146541 (s_kont 19 sM_law 136 [(5, .int 0), (4, .int 0), (3, .ref 61), (2, .ref 30), (1, .ref 2), (0, .ref 0)] [] (.invokevirtual 54) s_fin) := by
  refine w_mv (pc1 := 93) (st1 := [.int (-8)]) rfl rfl rfl ?_
  refine w_mv (pc1 := 142) (st1 := []) rfl rfl rfl ?_
  refine w_mv (pc1 := 143) (st1 := [.ref 30]) rfl rfl rfl ?_
  refine w_mv (pc1 := 146) (st1 := [.int (ty_cnt (ty_e xs) 8)]) rfl rfl rfl ?_
  refine w_iret (pc1 := 139) rfl rfl rfl rfl ?_
  refine w_mv (pc1 := 141) (lv1 := [(6, .int (ty_cnt (ty_e xs) 8)), (5, .int 0), (4, .int 0), (3, .ref 61), (2, .ref 30), (1, .ref 2), (0, .ref 0)]) (st1 := []) rfl rfl rfl ?_
  refine w_mv (pc1 := 142) (st1 := [.ref 30]) rfl rfl rfl ?_
  refine w_call (M' := sM_109) (vals := [.ref 30]) (rest := []) (lv' := [(0, .ref 30)]) rfl rfl rfl rfl rfl rfl rfl rfl rfl rfl ?_
  refine w_mv (pc1 := 1) (st1 := [.ref 30]) rfl rfl rfl ?_
  refine w_mv (pc1 := 4) (st1 := [.int 0]) rfl rfl rfl ?_
  refine w_iret (pc1 := 145) rfl rfl rfl rfl ?_
  refine w_mv (pc1 := 147) (st1 := [.int 0, .int 0]) rfl rfl rfl ?_
  refine w_mv (pc1 := 152) (st1 := []) rfl rfl rfl ?_
  refine w_mv (pc1 := 154) (st1 := [.int 0]) rfl rfl rfl ?_
  refine w_mv (pc1 := 157) (st1 := []) rfl rfl rfl ?_
  refine w_mv (pc1 := 158) (st1 := [.ref 61]) rfl rfl rfl ?_
  refine w_mv (pc1 := 159) (st1 := [.int 0, .ref 61]) rfl rfl rfl ?_
  refine w_mv (pc1 := 160) (st1 := [.long (Int32.toInt64 (ty_cnt (ty_e xs) 8))]) rfl rfl rfl ?_
  refine w_mv (pc1 := 162) (st1 := [.int (ty_cnt (ty_e xs) 8), .long (Int32.toInt64 (ty_cnt (ty_e xs) 8))]) rfl rfl rfl ?_
  refine w_mv (pc1 := 163) (st1 := [.long (Int32.toInt64 (ty_cnt (ty_e xs) 8)), .long (Int32.toInt64 (ty_cnt (ty_e xs) 8))]) rfl rfl rfl ?_
  refine w_lcE (pc1 := 164) rfl rfl ?_
  refine w_mv (pc1 := 169) (st1 := []) rfl rfl rfl ?_
  refine w_mv (pc1 := 501) (st1 := []) rfl rfl rfl ?_
  refine w_mv (pc1 := 504) (lv1 := [(4, .int 3), (6, .int (ty_cnt (ty_e xs) 8)), (5, .int 0), (3, .ref 61), (2, .ref 30), (1, .ref 2), (0, .ref 0)]) (st1 := []) rfl rfl rfl ?_
  refine w_mv (pc1 := 23) (st1 := []) rfl rfl rfl ?_
  refine w_mv (pc1 := 25) (st1 := [.int 3]) rfl rfl rfl ?_
  refine w_mv (pc1 := 26) (st1 := [.ref 0, .int 3]) rfl rfl rfl ?_
  refine w_mv (pc1 := 27) (st1 := [.int 3, .int 3]) rfl rfl rfl ?_
  refine w_mv (pc1 := 28) (st1 := [.int 3, .int 3, .int 3]) rfl rfl rfl ?_
  refine w_mv (pc1 := 29) (st1 := [.int 0, .int 3]) rfl rfl rfl ?_
  refine w_mv (pc1 := 507) (st1 := []) rfl rfl rfl ?_
  refine w_mv (pc1 := 508) (st1 := [.int 1]) rfl rfl rfl ?_
  exact sx_wp.stop rfl rfl rfl ⟨rfl, by decide, by decide⟩
theorem ty_me (xs : Nat → Int32) (fc : Nat → Int32) (n : Int32) (g : Nat → Int32) (c : Int32) : ∀ o : Nat, s_wp 19 sM_110 91 (ty_lvm o (-8) n 1 c (ty_e xs)) [] (ty_H xs (ty_cnt (ty_e xs) 8) fc (vp_updL (fun _ => 0) 0 (Int32.toInt64 (ty_cnt (ty_e xs) 8))) (ty_cnt (ty_e xs) 8) g) 60 146541 (s_kont 19 sM_law 136 [(5, .int 0), (4, .int 0), (3, .ref 61), (2, .ref 30), (1, .ref 2), (0, .ref 0)] [] (.invokevirtual 54) s_fin)
  | 0 => ty_me_0 xs fc n g c
  | 1 => ty_me_1 xs fc n g c
  | 2 => ty_me_2 xs fc n g c
  | _ + 3 => ty_me_3 xs fc n g c
set_option maxRecDepth 20000 in
set_option maxHeartbeats 4000000 in
theorem ty_mg_0 (xs : Nat → Int32) (fc : Nat → Int32) (n c : Int32) (hn0 : 0 ≤ n.toInt) (hn8 : n.toInt ≤ 8) : s_wp 19 sM_110 9 [(5, .int (-8)), (6, .int c), (4, .int 1), (3, .int n), (0, .ref 30), (1, .long (ty_e xs))] [] (ty_H xs (ty_cnt (ty_e xs) 8) fc (vp_updL (fun _ => 0) 0 (Int32.toInt64 (ty_cnt (ty_e xs) 8))) 0 (fun _ => 0)) 60 146541 (s_kont 19 sM_law 136 [(5, .int 0), (4, .int 0), (3, .ref 61), (2, .ref 30), (1, .ref 2), (0, .ref 0)] [] (.invokevirtual 54) s_fin) := by
  have hm1 := ty_0add n
  refine w_mv (pc1 := 11) (st1 := [.int (-8)]) rfl rfl rfl ?_
  refine w_mv (pc1 := 59) (st1 := []) rfl rfl rfl ?_
  refine w_mv (pc1 := 60) (st1 := [.ref 30]) rfl rfl rfl ?_
  refine w_mv (pc1 := 62) (st1 := [.int 1, .ref 30]) rfl rfl rfl ?_
  refine w_call (M' := sM_112) (vals := [.ref 30, .int 1]) (rest := []) (lv' := [(0, .ref 30), (1, .int 1)]) rfl rfl rfl rfl rfl rfl rfl rfl rfl rfl ?_
  refine w_mv (pc1 := 1) (st1 := [.ref 30]) rfl rfl rfl ?_
  refine w_mv (pc1 := 2) (st1 := [.int 1, .ref 30]) rfl rfl rfl ?_
  refine w_mv (pc1 := 5) (st1 := [.ref 30]) rfl rfl rfl ?_
  refine w_mv (pc1 := 6) (st1 := [.int 0, .ref 30]) rfl rfl rfl ?_
  refine w_mv (pc1 := 10) (st1 := [.int 0, .ref 30]) rfl rfl rfl ?_
  refine w_st (pc1 := 13) (st1 := []) (hs1 := ty_H xs (ty_cnt (ty_e xs) 8) fc (vp_updL (fun _ => 0) 0 (Int32.toInt64 (ty_cnt (ty_e xs) 8))) 0 (fun _ => 0)) (dc1 := 0) (ds1 := 0) (dc2 := 60) (ds2 := 146541) rfl rfl rfl rfl rfl ?_
  refine w_mv (pc1 := 14) (st1 := [.int 1]) rfl rfl rfl ?_
  refine w_mv (pc1 := 21) (st1 := []) rfl rfl rfl ?_
  refine w_mv (pc1 := 22) (st1 := [.int 0]) rfl rfl rfl ?_
  refine w_iret (pc1 := 65) rfl rfl rfl rfl ?_
  refine w_mv (pc1 := 70) (st1 := []) rfl rfl rfl ?_
  refine w_mv (pc1 := 71) (st1 := [.ref 30]) rfl rfl rfl ?_
  refine w_mv (pc1 := 74) (st1 := [.int 0]) rfl rfl rfl ?_
  refine w_mv (pc1 := 75) (st1 := [.int n, .int 0]) rfl rfl rfl ?_
  refine w_mv (pc1 := 76) (st1 := [.int (0 + n)]) rfl rfl rfl ?_
  refine w_mv (pc1 := 78) (st1 := [.int 48, .int (0 + n)]) rfl rfl rfl ?_
  refine w_ile_T (pc1 := 87) rfl rfl (show (0 + n).toInt ≤ 48 by omega) ?_
  refine w_mv (pc1 := 89) (st1 := [.int 56]) rfl rfl rfl ?_
  refine w_mv (pc1 := 91) (lv1 := [(5, .int 56), (6, .int c), (4, .int 1), (3, .int n), (0, .ref 30), (1, .long (ty_e xs))]) (st1 := []) rfl rfl rfl ?_
  exact ty_m2 (e := ty_e xs) (fun o g c => ty_me xs fc n g c o) 0 c
set_option maxRecDepth 20000 in
set_option maxHeartbeats 4000000 in
theorem ty_mg_1 (xs : Nat → Int32) (fc : Nat → Int32) (n c : Int32) (hn0 : 0 ≤ n.toInt) (hn8 : n.toInt ≤ 8) : s_wp 19 sM_110 9 [(5, .int (-8)), (6, .int c), (3, .int n), (4, .int 1), (0, .ref 30), (1, .long (ty_e xs))] [] (ty_H xs (ty_cnt (ty_e xs) 8) fc (vp_updL (fun _ => 0) 0 (Int32.toInt64 (ty_cnt (ty_e xs) 8))) 0 (fun _ => 0)) 60 146541 (s_kont 19 sM_law 136 [(5, .int 0), (4, .int 0), (3, .ref 61), (2, .ref 30), (1, .ref 2), (0, .ref 0)] [] (.invokevirtual 54) s_fin) := by
  have hm1 := ty_0add n
  refine w_mv (pc1 := 11) (st1 := [.int (-8)]) rfl rfl rfl ?_
  refine w_mv (pc1 := 59) (st1 := []) rfl rfl rfl ?_
  refine w_mv (pc1 := 60) (st1 := [.ref 30]) rfl rfl rfl ?_
  refine w_mv (pc1 := 62) (st1 := [.int 1, .ref 30]) rfl rfl rfl ?_
  refine w_call (M' := sM_112) (vals := [.ref 30, .int 1]) (rest := []) (lv' := [(0, .ref 30), (1, .int 1)]) rfl rfl rfl rfl rfl rfl rfl rfl rfl rfl ?_
  refine w_mv (pc1 := 1) (st1 := [.ref 30]) rfl rfl rfl ?_
  refine w_mv (pc1 := 2) (st1 := [.int 1, .ref 30]) rfl rfl rfl ?_
  refine w_mv (pc1 := 5) (st1 := [.ref 30]) rfl rfl rfl ?_
  refine w_mv (pc1 := 6) (st1 := [.int 0, .ref 30]) rfl rfl rfl ?_
  refine w_mv (pc1 := 10) (st1 := [.int 0, .ref 30]) rfl rfl rfl ?_
  refine w_st (pc1 := 13) (st1 := []) (hs1 := ty_H xs (ty_cnt (ty_e xs) 8) fc (vp_updL (fun _ => 0) 0 (Int32.toInt64 (ty_cnt (ty_e xs) 8))) 0 (fun _ => 0)) (dc1 := 0) (ds1 := 0) (dc2 := 60) (ds2 := 146541) rfl rfl rfl rfl rfl ?_
  refine w_mv (pc1 := 14) (st1 := [.int 1]) rfl rfl rfl ?_
  refine w_mv (pc1 := 21) (st1 := []) rfl rfl rfl ?_
  refine w_mv (pc1 := 22) (st1 := [.int 0]) rfl rfl rfl ?_
  refine w_iret (pc1 := 65) rfl rfl rfl rfl ?_
  refine w_mv (pc1 := 70) (st1 := []) rfl rfl rfl ?_
  refine w_mv (pc1 := 71) (st1 := [.ref 30]) rfl rfl rfl ?_
  refine w_mv (pc1 := 74) (st1 := [.int 0]) rfl rfl rfl ?_
  refine w_mv (pc1 := 75) (st1 := [.int n, .int 0]) rfl rfl rfl ?_
  refine w_mv (pc1 := 76) (st1 := [.int (0 + n)]) rfl rfl rfl ?_
  refine w_mv (pc1 := 78) (st1 := [.int 48, .int (0 + n)]) rfl rfl rfl ?_
  refine w_ile_T (pc1 := 87) rfl rfl (show (0 + n).toInt ≤ 48 by omega) ?_
  refine w_mv (pc1 := 89) (st1 := [.int 56]) rfl rfl rfl ?_
  refine w_mv (pc1 := 91) (lv1 := [(5, .int 56), (6, .int c), (3, .int n), (4, .int 1), (0, .ref 30), (1, .long (ty_e xs))]) (st1 := []) rfl rfl rfl ?_
  exact ty_m2 (e := ty_e xs) (fun o g c => ty_me xs fc n g c o) 1 c
set_option maxRecDepth 20000 in
set_option maxHeartbeats 4000000 in
theorem ty_mg_2 (xs : Nat → Int32) (fc : Nat → Int32) (n c : Int32) (hn0 : 0 ≤ n.toInt) (hn8 : n.toInt ≤ 8) : s_wp 19 sM_110 9 [(5, .int (-8)), (3, .int n), (6, .int c), (4, .int 1), (0, .ref 30), (1, .long (ty_e xs))] [] (ty_H xs (ty_cnt (ty_e xs) 8) fc (vp_updL (fun _ => 0) 0 (Int32.toInt64 (ty_cnt (ty_e xs) 8))) 0 (fun _ => 0)) 60 146541 (s_kont 19 sM_law 136 [(5, .int 0), (4, .int 0), (3, .ref 61), (2, .ref 30), (1, .ref 2), (0, .ref 0)] [] (.invokevirtual 54) s_fin) := by
  have hm1 := ty_0add n
  refine w_mv (pc1 := 11) (st1 := [.int (-8)]) rfl rfl rfl ?_
  refine w_mv (pc1 := 59) (st1 := []) rfl rfl rfl ?_
  refine w_mv (pc1 := 60) (st1 := [.ref 30]) rfl rfl rfl ?_
  refine w_mv (pc1 := 62) (st1 := [.int 1, .ref 30]) rfl rfl rfl ?_
  refine w_call (M' := sM_112) (vals := [.ref 30, .int 1]) (rest := []) (lv' := [(0, .ref 30), (1, .int 1)]) rfl rfl rfl rfl rfl rfl rfl rfl rfl rfl ?_
  refine w_mv (pc1 := 1) (st1 := [.ref 30]) rfl rfl rfl ?_
  refine w_mv (pc1 := 2) (st1 := [.int 1, .ref 30]) rfl rfl rfl ?_
  refine w_mv (pc1 := 5) (st1 := [.ref 30]) rfl rfl rfl ?_
  refine w_mv (pc1 := 6) (st1 := [.int 0, .ref 30]) rfl rfl rfl ?_
  refine w_mv (pc1 := 10) (st1 := [.int 0, .ref 30]) rfl rfl rfl ?_
  refine w_st (pc1 := 13) (st1 := []) (hs1 := ty_H xs (ty_cnt (ty_e xs) 8) fc (vp_updL (fun _ => 0) 0 (Int32.toInt64 (ty_cnt (ty_e xs) 8))) 0 (fun _ => 0)) (dc1 := 0) (ds1 := 0) (dc2 := 60) (ds2 := 146541) rfl rfl rfl rfl rfl ?_
  refine w_mv (pc1 := 14) (st1 := [.int 1]) rfl rfl rfl ?_
  refine w_mv (pc1 := 21) (st1 := []) rfl rfl rfl ?_
  refine w_mv (pc1 := 22) (st1 := [.int 0]) rfl rfl rfl ?_
  refine w_iret (pc1 := 65) rfl rfl rfl rfl ?_
  refine w_mv (pc1 := 70) (st1 := []) rfl rfl rfl ?_
  refine w_mv (pc1 := 71) (st1 := [.ref 30]) rfl rfl rfl ?_
  refine w_mv (pc1 := 74) (st1 := [.int 0]) rfl rfl rfl ?_
  refine w_mv (pc1 := 75) (st1 := [.int n, .int 0]) rfl rfl rfl ?_
  refine w_mv (pc1 := 76) (st1 := [.int (0 + n)]) rfl rfl rfl ?_
  refine w_mv (pc1 := 78) (st1 := [.int 48, .int (0 + n)]) rfl rfl rfl ?_
  refine w_ile_T (pc1 := 87) rfl rfl (show (0 + n).toInt ≤ 48 by omega) ?_
  refine w_mv (pc1 := 89) (st1 := [.int 56]) rfl rfl rfl ?_
  refine w_mv (pc1 := 91) (lv1 := [(5, .int 56), (3, .int n), (6, .int c), (4, .int 1), (0, .ref 30), (1, .long (ty_e xs))]) (st1 := []) rfl rfl rfl ?_
  exact ty_m2 (e := ty_e xs) (fun o g c => ty_me xs fc n g c o) 2 c
set_option maxRecDepth 20000 in
set_option maxHeartbeats 4000000 in
theorem ty_mg_3 (xs : Nat → Int32) (fc : Nat → Int32) (n c : Int32) (hn0 : 0 ≤ n.toInt) (hn8 : n.toInt ≤ 8) : s_wp 19 sM_110 9 [(5, .int (-8)), (4, .int 1), (3, .int n), (6, .int c), (0, .ref 30), (1, .long (ty_e xs))] [] (ty_H xs (ty_cnt (ty_e xs) 8) fc (vp_updL (fun _ => 0) 0 (Int32.toInt64 (ty_cnt (ty_e xs) 8))) 0 (fun _ => 0)) 60 146541 (s_kont 19 sM_law 136 [(5, .int 0), (4, .int 0), (3, .ref 61), (2, .ref 30), (1, .ref 2), (0, .ref 0)] [] (.invokevirtual 54) s_fin) := by
  have hm1 := ty_0add n
  refine w_mv (pc1 := 11) (st1 := [.int (-8)]) rfl rfl rfl ?_
  refine w_mv (pc1 := 59) (st1 := []) rfl rfl rfl ?_
  refine w_mv (pc1 := 60) (st1 := [.ref 30]) rfl rfl rfl ?_
  refine w_mv (pc1 := 62) (st1 := [.int 1, .ref 30]) rfl rfl rfl ?_
  refine w_call (M' := sM_112) (vals := [.ref 30, .int 1]) (rest := []) (lv' := [(0, .ref 30), (1, .int 1)]) rfl rfl rfl rfl rfl rfl rfl rfl rfl rfl ?_
  refine w_mv (pc1 := 1) (st1 := [.ref 30]) rfl rfl rfl ?_
  refine w_mv (pc1 := 2) (st1 := [.int 1, .ref 30]) rfl rfl rfl ?_
  refine w_mv (pc1 := 5) (st1 := [.ref 30]) rfl rfl rfl ?_
  refine w_mv (pc1 := 6) (st1 := [.int 0, .ref 30]) rfl rfl rfl ?_
  refine w_mv (pc1 := 10) (st1 := [.int 0, .ref 30]) rfl rfl rfl ?_
  refine w_st (pc1 := 13) (st1 := []) (hs1 := ty_H xs (ty_cnt (ty_e xs) 8) fc (vp_updL (fun _ => 0) 0 (Int32.toInt64 (ty_cnt (ty_e xs) 8))) 0 (fun _ => 0)) (dc1 := 0) (ds1 := 0) (dc2 := 60) (ds2 := 146541) rfl rfl rfl rfl rfl ?_
  refine w_mv (pc1 := 14) (st1 := [.int 1]) rfl rfl rfl ?_
  refine w_mv (pc1 := 21) (st1 := []) rfl rfl rfl ?_
  refine w_mv (pc1 := 22) (st1 := [.int 0]) rfl rfl rfl ?_
  refine w_iret (pc1 := 65) rfl rfl rfl rfl ?_
  refine w_mv (pc1 := 70) (st1 := []) rfl rfl rfl ?_
  refine w_mv (pc1 := 71) (st1 := [.ref 30]) rfl rfl rfl ?_
  refine w_mv (pc1 := 74) (st1 := [.int 0]) rfl rfl rfl ?_
  refine w_mv (pc1 := 75) (st1 := [.int n, .int 0]) rfl rfl rfl ?_
  refine w_mv (pc1 := 76) (st1 := [.int (0 + n)]) rfl rfl rfl ?_
  refine w_mv (pc1 := 78) (st1 := [.int 48, .int (0 + n)]) rfl rfl rfl ?_
  refine w_ile_T (pc1 := 87) rfl rfl (show (0 + n).toInt ≤ 48 by omega) ?_
  refine w_mv (pc1 := 89) (st1 := [.int 56]) rfl rfl rfl ?_
  refine w_mv (pc1 := 91) (lv1 := [(5, .int 56), (4, .int 1), (3, .int n), (6, .int c), (0, .ref 30), (1, .long (ty_e xs))]) (st1 := []) rfl rfl rfl ?_
  exact ty_m2 (e := ty_e xs) (fun o g c => ty_me xs fc n g c o) 3 c
theorem ty_mg (xs : Nat → Int32) (fc : Nat → Int32) (n c : Int32) (hn0 : 0 ≤ n.toInt) (hn8 : n.toInt ≤ 8) : ∀ o : Nat, s_wp 19 sM_110 9 (ty_lvm o (-8) n 1 c (ty_e xs)) [] (ty_H xs (ty_cnt (ty_e xs) 8) fc (vp_updL (fun _ => 0) 0 (Int32.toInt64 (ty_cnt (ty_e xs) 8))) 0 (fun _ => 0)) 60 146541 (s_kont 19 sM_law 136 [(5, .int 0), (4, .int 0), (3, .ref 61), (2, .ref 30), (1, .ref 2), (0, .ref 0)] [] (.invokevirtual 54) s_fin)
  | 0 => ty_mg_0 xs fc n c hn0 hn8
  | 1 => ty_mg_1 xs fc n c hn0 hn8
  | 2 => ty_mg_2 xs fc n c hn0 hn8
  | _ + 3 => ty_mg_3 xs fc n c hn0 hn8
set_option maxRecDepth 20000 in
set_option maxHeartbeats 4000000 in
theorem s_k_type (xs : Nat → Int32) : s_wp 20 sM_law 84 [(4, .int 0), (3, .ref 61), (2, .ref 30), (1, .ref 2), (0, .ref 0)] [] (sH_121 3 xs) 60 146541 s_fin := by
  refine w_mv (pc1 := 85) (st1 := [.ref 2]) rfl rfl rfl ?_
  refine w_mv (pc1 := 86) (st1 := [.ref 0, .ref 2]) rfl rfl rfl ?_
  refine w_mv (pc1 := 88) (st1 := [.int 0, .ref 0, .ref 2]) rfl rfl rfl ?_
  refine w_mv (pc1 := 89) (st1 := [.int 1, .int 0, .ref 0, .ref 2]) rfl rfl rfl ?_
  refine w_mv (pc1 := 90) (st1 := [.int 1, .ref 0, .ref 2]) rfl rfl rfl ?_
  refine w_mv (pc1 := 91) (st1 := [.int (xs 1), .ref 2]) rfl rfl rfl ?_
  refine w_mv (pc1 := 92) (st1 := [.long (Int32.toInt64 (xs 1)), .ref 2]) rfl rfl rfl ?_
  refine w_mv (pc1 := 94) (st1 := [.int 32, .long (Int32.toInt64 (xs 1)), .ref 2]) rfl rfl rfl ?_
  refine w_mv (pc1 := 95) (st1 := [.long ((Int32.toInt64 (xs 1)) <<< (Int32.toInt64 32 &&& 63)), .ref 2]) rfl rfl rfl ?_
  refine w_mv (pc1 := 96) (st1 := [.ref 0, .long ((Int32.toInt64 (xs 1)) <<< (Int32.toInt64 32 &&& 63)), .ref 2]) rfl rfl rfl ?_
  refine w_mv (pc1 := 98) (st1 := [.int 0, .ref 0, .long ((Int32.toInt64 (xs 1)) <<< (Int32.toInt64 32 &&& 63)), .ref 2]) rfl rfl rfl ?_
  refine w_mv (pc1 := 99) (st1 := [.int 2, .int 0, .ref 0, .long ((Int32.toInt64 (xs 1)) <<< (Int32.toInt64 32 &&& 63)), .ref 2]) rfl rfl rfl ?_
  refine w_mv (pc1 := 100) (st1 := [.int 2, .ref 0, .long ((Int32.toInt64 (xs 1)) <<< (Int32.toInt64 32 &&& 63)), .ref 2]) rfl rfl rfl ?_
  refine w_mv (pc1 := 101) (st1 := [.int (xs 2), .long ((Int32.toInt64 (xs 1)) <<< (Int32.toInt64 32 &&& 63)), .ref 2]) rfl rfl rfl ?_
  refine w_mv (pc1 := 102) (st1 := [.long (Int32.toInt64 (xs 2)), .long ((Int32.toInt64 (xs 1)) <<< (Int32.toInt64 32 &&& 63)), .ref 2]) rfl rfl rfl ?_
  refine w_mv (pc1 := 105) (st1 := [.long 4294967295, .long (Int32.toInt64 (xs 2)), .long ((Int32.toInt64 (xs 1)) <<< (Int32.toInt64 32 &&& 63)), .ref 2]) rfl rfl rfl ?_
  refine w_mv (pc1 := 106) (st1 := [.long ((Int32.toInt64 (xs 2)) &&& 4294967295), .long ((Int32.toInt64 (xs 1)) <<< (Int32.toInt64 32 &&& 63)), .ref 2]) rfl rfl rfl ?_
  refine w_mv (pc1 := 107) (st1 := [.long (ty_e xs), .ref 2]) rfl rfl rfl ?_
  refine w_mv (pc1 := 108) (st1 := [.ref 61, .long (ty_e xs), .ref 2]) rfl rfl rfl ?_
  refine w_call (M' := sM_18) (vals := [.ref 2, .long (ty_e xs), .ref 61]) (rest := []) (lv' := [(0, .ref 2), (1, .long (ty_e xs)), (3, .ref 61)]) rfl rfl rfl rfl rfl rfl rfl rfl rfl rfl ?_
  refine w_mv (pc1 := 1) (st1 := [.ref 61]) rfl rfl rfl ?_
  refine w_mv (pc1 := 2) (st1 := [.int 0, .ref 61]) rfl rfl rfl ?_
  refine w_mv (pc1 := 3) (st1 := [.ref 2, .int 0, .ref 61]) rfl rfl rfl ?_
  refine w_mv (pc1 := 4) (st1 := [.long (ty_e xs), .ref 2, .int 0, .ref 61]) rfl rfl rfl ?_
  refine w_call (M' := sM_19) (vals := [.ref 2, .long (ty_e xs)]) (rest := [.int 0, .ref 61]) (lv' := [(0, .ref 2), (1, .long (ty_e xs))]) rfl rfl rfl rfl rfl rfl rfl rfl rfl rfl ?_
  refine w_mv (pc1 := 1) (st1 := [.int 0]) rfl rfl rfl ?_
  refine w_mv (pc1 := 2) (lv1 := [(3, .int 0), (0, .ref 2), (1, .long (ty_e xs))]) (st1 := []) rfl rfl rfl ?_
  refine w_mv (pc1 := 4) (st1 := [.int 56]) rfl rfl rfl ?_
  refine w_mv (pc1 := 6) (lv1 := [(4, .int 56), (3, .int 0), (0, .ref 2), (1, .long (ty_e xs))]) (st1 := []) rfl rfl rfl ?_
  refine ty_c1 (e := ty_e xs) (fun hb => ?_) (fun hb m c hm0 hm8 => ?_)
  ·
    refine w_kt (x1 := 62) (j := 0) (h9 := 12) (hs1 := sH_127 3 xs) rfl rfl rfl rfl rfl rfl ?_
    refine w_mv (pc1 := 14) (lv1 := [(4, .ref 62), (0, .ref 2), (1, .long (ty_e xs)), (3, .ref 61)]) (st1 := []) rfl rfl rfl ?_
    refine w_mv (pc1 := 15) (st1 := [.int 1]) rfl rfl rfl ?_
    refine w_iret (pc1 := 111) rfl rfl rfl rfl ?_
    refine w_mv (pc1 := 113) (lv1 := [(5, .int 1), (4, .int 0), (3, .ref 61), (2, .ref 30), (1, .ref 2), (0, .ref 0)]) (st1 := []) rfl rfl rfl ?_
    refine w_mv (pc1 := 114) (st1 := [.ref 30]) rfl rfl rfl ?_
    refine w_mv (pc1 := 115) (st1 := [.ref 0, .ref 30]) rfl rfl rfl ?_
    refine w_mv (pc1 := 117) (st1 := [.int 0, .ref 0, .ref 30]) rfl rfl rfl ?_
    refine w_mv (pc1 := 118) (st1 := [.int 1, .int 0, .ref 0, .ref 30]) rfl rfl rfl ?_
    refine w_mv (pc1 := 119) (st1 := [.int 1, .ref 0, .ref 30]) rfl rfl rfl ?_
    refine w_mv (pc1 := 120) (st1 := [.int (xs 1), .ref 30]) rfl rfl rfl ?_
    refine w_mv (pc1 := 121) (st1 := [.long (Int32.toInt64 (xs 1)), .ref 30]) rfl rfl rfl ?_
    refine w_mv (pc1 := 123) (st1 := [.int 32, .long (Int32.toInt64 (xs 1)), .ref 30]) rfl rfl rfl ?_
    refine w_mv (pc1 := 124) (st1 := [.long ((Int32.toInt64 (xs 1)) <<< (Int32.toInt64 32 &&& 63)), .ref 30]) rfl rfl rfl ?_
    refine w_mv (pc1 := 125) (st1 := [.ref 0, .long ((Int32.toInt64 (xs 1)) <<< (Int32.toInt64 32 &&& 63)), .ref 30]) rfl rfl rfl ?_
    refine w_mv (pc1 := 127) (st1 := [.int 0, .ref 0, .long ((Int32.toInt64 (xs 1)) <<< (Int32.toInt64 32 &&& 63)), .ref 30]) rfl rfl rfl ?_
    refine w_mv (pc1 := 128) (st1 := [.int 2, .int 0, .ref 0, .long ((Int32.toInt64 (xs 1)) <<< (Int32.toInt64 32 &&& 63)), .ref 30]) rfl rfl rfl ?_
    refine w_mv (pc1 := 129) (st1 := [.int 2, .ref 0, .long ((Int32.toInt64 (xs 1)) <<< (Int32.toInt64 32 &&& 63)), .ref 30]) rfl rfl rfl ?_
    refine w_mv (pc1 := 130) (st1 := [.int (xs 2), .long ((Int32.toInt64 (xs 1)) <<< (Int32.toInt64 32 &&& 63)), .ref 30]) rfl rfl rfl ?_
    refine w_mv (pc1 := 131) (st1 := [.long (Int32.toInt64 (xs 2)), .long ((Int32.toInt64 (xs 1)) <<< (Int32.toInt64 32 &&& 63)), .ref 30]) rfl rfl rfl ?_
    refine w_mv (pc1 := 134) (st1 := [.long 4294967295, .long (Int32.toInt64 (xs 2)), .long ((Int32.toInt64 (xs 1)) <<< (Int32.toInt64 32 &&& 63)), .ref 30]) rfl rfl rfl ?_
    refine w_mv (pc1 := 135) (st1 := [.long ((Int32.toInt64 (xs 2)) &&& 4294967295), .long ((Int32.toInt64 (xs 1)) <<< (Int32.toInt64 32 &&& 63)), .ref 30]) rfl rfl rfl ?_
    refine w_mv (pc1 := 136) (st1 := [.long (ty_e xs), .ref 30]) rfl rfl rfl ?_
    refine w_call (M' := sM_110) (vals := [.ref 30, .long (ty_e xs)]) (rest := []) (lv' := [(0, .ref 30), (1, .long (ty_e xs))]) rfl rfl rfl rfl rfl rfl rfl rfl rfl rfl ?_
    refine w_mv (pc1 := 1) (st1 := [.int 0]) rfl rfl rfl ?_
    refine w_mv (pc1 := 2) (lv1 := [(3, .int 0), (0, .ref 30), (1, .long (ty_e xs))]) (st1 := []) rfl rfl rfl ?_
    refine w_mv (pc1 := 3) (st1 := [.int 1]) rfl rfl rfl ?_
    refine w_mv (pc1 := 5) (lv1 := [(4, .int 1), (3, .int 0), (0, .ref 30), (1, .long (ty_e xs))]) (st1 := []) rfl rfl rfl ?_
    refine w_mv (pc1 := 7) (st1 := [.int 56]) rfl rfl rfl ?_
    refine w_mv (pc1 := 9) (lv1 := [(5, .int 56), (4, .int 1), (3, .int 0), (0, .ref 30), (1, .long (ty_e xs))]) (st1 := []) rfl rfl rfl ?_
    show s_wp 19 sM_110 9 [(5, .int 56), (4, .int 1), (3, .int 0), (0, .ref 30), (1, .long (ty_e xs))] [] (sH_127 3 xs) 61 146547 (s_kont 19 sM_law 136 [(5, .int 1), (4, .int 0), (3, .ref 61), (2, .ref 30), (1, .ref 2), (0, .ref 0)] [] (.invokevirtual 54) s_fin)
    refine ty_m1 (fun o n f c hiv => ?_)
    obtain ⟨⟨hn0, hn8⟩, hf⟩ := hiv
    rcases hf with ⟨rfl, hg⟩ | ⟨rfl, -⟩
    · obtain ⟨j, hj, hjb⟩ := hb
      exact absurd hjb (hg j hj)
    · exact ty_mb xs n c o
  ·
    have hm1 := ty_0add m
    refine w_mv (pc1 := 8) (st1 := [.int (-8)]) rfl rfl rfl ?_
    refine w_mv (pc1 := 65) (st1 := []) rfl rfl rfl ?_
    refine w_mv (pc1 := 66) (st1 := [.ref 2]) rfl rfl rfl ?_
    refine w_mv (pc1 := 69) (st1 := [.ref 3]) rfl rfl rfl ?_
    refine w_call (M' := sM_8) (vals := [.ref 3]) (rest := []) (lv' := [(0, .ref 3)]) rfl rfl rfl rfl rfl rfl rfl rfl rfl rfl ?_
    refine w_mv (pc1 := 1) (st1 := [.ref 3]) rfl rfl rfl ?_
    refine w_mv (pc1 := 4) (st1 := [.int 0]) rfl rfl rfl ?_
    refine w_iret (pc1 := 72) rfl rfl rfl rfl ?_
    refine w_mv (pc1 := 73) (st1 := [.int m, .int 0]) rfl rfl rfl ?_
    refine w_mv (pc1 := 74) (st1 := [.int (0 + m)]) rfl rfl rfl ?_
    refine w_mv (pc1 := 76) (st1 := [.int 48, .int (0 + m)]) rfl rfl rfl ?_
    refine w_ile_T (pc1 := 87) rfl rfl (show (0 + m).toInt ≤ 48 by omega) ?_
    refine w_mv (pc1 := 89) (st1 := [.int 56]) rfl rfl rfl ?_
    refine w_mv (pc1 := 91) (lv1 := [(4, .int 56), (3, .int m), (5, .int c), (0, .ref 2), (1, .long (ty_e xs))]) (st1 := []) rfl rfl rfl ?_
    show s_wp 18 sM_19 91 [(4, .int 56), (3, .int m), (5, .int c), (0, .ref 2), (1, .long (ty_e xs))] [] (ty_H xs 0 (fun _ => 0) (fun _ => 0) 0 (fun _ => 0)) 60 146541 (s_kont 18 sM_18 4 [(0, .ref 2), (1, .long (ty_e xs)), (3, .ref 61)] [.int 0, .ref 61] (.invokevirtual 7) (s_kont 19 sM_law 108 [(4, .int 0), (3, .ref 61), (2, .ref 30), (1, .ref 2), (0, .ref 0)] [] (.invokestatic 49) s_fin))
    refine ty_c2 (fun fc c => ?_)
    refine w_mv (pc1 := 93) (st1 := [.int (-8)]) rfl rfl rfl ?_
    refine w_mv (pc1 := 124) (st1 := []) rfl rfl rfl ?_
    refine w_mv (pc1 := 125) (st1 := [.ref 2]) rfl rfl rfl ?_
    refine w_mv (pc1 := 128) (st1 := [.ref 3]) rfl rfl rfl ?_
    refine w_call (M' := sM_8) (vals := [.ref 3]) (rest := []) (lv' := [(0, .ref 3)]) rfl rfl rfl rfl rfl rfl rfl rfl rfl rfl ?_
    refine w_mv (pc1 := 1) (st1 := [.ref 3]) rfl rfl rfl ?_
    refine w_mv (pc1 := 4) (st1 := [.int (ty_cnt (ty_e xs) 8)]) rfl rfl rfl ?_
    refine w_iret (pc1 := 131) rfl rfl rfl rfl ?_
    refine w_iret (pc1 := 7) rfl rfl rfl rfl ?_
    refine w_mv (pc1 := 8) (st1 := [.long (Int32.toInt64 (ty_cnt (ty_e xs) 8)), .int 0, .ref 61]) rfl rfl rfl ?_
    refine w_st (pc1 := 9) (st1 := []) (hs1 := ty_H xs (ty_cnt (ty_e xs) 8) fc (vp_updL (fun _ => 0) 0 (Int32.toInt64 (ty_cnt (ty_e xs) 8))) 0 (fun _ => 0)) (dc1 := 0) (ds1 := 0) (dc2 := 60) (ds2 := 146541) rfl rfl rfl rfl rfl ?_
    refine w_mv (pc1 := 20) (st1 := []) rfl rfl rfl ?_
    refine w_mv (pc1 := 21) (st1 := [.int 0]) rfl rfl rfl ?_
    refine w_iret (pc1 := 111) rfl rfl rfl rfl ?_
    refine w_mv (pc1 := 113) (lv1 := [(5, .int 0), (4, .int 0), (3, .ref 61), (2, .ref 30), (1, .ref 2), (0, .ref 0)]) (st1 := []) rfl rfl rfl ?_
    refine w_mv (pc1 := 114) (st1 := [.ref 30]) rfl rfl rfl ?_
    refine w_mv (pc1 := 115) (st1 := [.ref 0, .ref 30]) rfl rfl rfl ?_
    refine w_mv (pc1 := 117) (st1 := [.int 0, .ref 0, .ref 30]) rfl rfl rfl ?_
    refine w_mv (pc1 := 118) (st1 := [.int 1, .int 0, .ref 0, .ref 30]) rfl rfl rfl ?_
    refine w_mv (pc1 := 119) (st1 := [.int 1, .ref 0, .ref 30]) rfl rfl rfl ?_
    refine w_mv (pc1 := 120) (st1 := [.int (xs 1), .ref 30]) rfl rfl rfl ?_
    refine w_mv (pc1 := 121) (st1 := [.long (Int32.toInt64 (xs 1)), .ref 30]) rfl rfl rfl ?_
    refine w_mv (pc1 := 123) (st1 := [.int 32, .long (Int32.toInt64 (xs 1)), .ref 30]) rfl rfl rfl ?_
    refine w_mv (pc1 := 124) (st1 := [.long ((Int32.toInt64 (xs 1)) <<< (Int32.toInt64 32 &&& 63)), .ref 30]) rfl rfl rfl ?_
    refine w_mv (pc1 := 125) (st1 := [.ref 0, .long ((Int32.toInt64 (xs 1)) <<< (Int32.toInt64 32 &&& 63)), .ref 30]) rfl rfl rfl ?_
    refine w_mv (pc1 := 127) (st1 := [.int 0, .ref 0, .long ((Int32.toInt64 (xs 1)) <<< (Int32.toInt64 32 &&& 63)), .ref 30]) rfl rfl rfl ?_
    refine w_mv (pc1 := 128) (st1 := [.int 2, .int 0, .ref 0, .long ((Int32.toInt64 (xs 1)) <<< (Int32.toInt64 32 &&& 63)), .ref 30]) rfl rfl rfl ?_
    refine w_mv (pc1 := 129) (st1 := [.int 2, .ref 0, .long ((Int32.toInt64 (xs 1)) <<< (Int32.toInt64 32 &&& 63)), .ref 30]) rfl rfl rfl ?_
    refine w_mv (pc1 := 130) (st1 := [.int (xs 2), .long ((Int32.toInt64 (xs 1)) <<< (Int32.toInt64 32 &&& 63)), .ref 30]) rfl rfl rfl ?_
    refine w_mv (pc1 := 131) (st1 := [.long (Int32.toInt64 (xs 2)), .long ((Int32.toInt64 (xs 1)) <<< (Int32.toInt64 32 &&& 63)), .ref 30]) rfl rfl rfl ?_
    refine w_mv (pc1 := 134) (st1 := [.long 4294967295, .long (Int32.toInt64 (xs 2)), .long ((Int32.toInt64 (xs 1)) <<< (Int32.toInt64 32 &&& 63)), .ref 30]) rfl rfl rfl ?_
    refine w_mv (pc1 := 135) (st1 := [.long ((Int32.toInt64 (xs 2)) &&& 4294967295), .long ((Int32.toInt64 (xs 1)) <<< (Int32.toInt64 32 &&& 63)), .ref 30]) rfl rfl rfl ?_
    refine w_mv (pc1 := 136) (st1 := [.long (ty_e xs), .ref 30]) rfl rfl rfl ?_
    refine w_call (M' := sM_110) (vals := [.ref 30, .long (ty_e xs)]) (rest := []) (lv' := [(0, .ref 30), (1, .long (ty_e xs))]) rfl rfl rfl rfl rfl rfl rfl rfl rfl rfl ?_
    refine w_mv (pc1 := 1) (st1 := [.int 0]) rfl rfl rfl ?_
    refine w_mv (pc1 := 2) (lv1 := [(3, .int 0), (0, .ref 30), (1, .long (ty_e xs))]) (st1 := []) rfl rfl rfl ?_
    refine w_mv (pc1 := 3) (st1 := [.int 1]) rfl rfl rfl ?_
    refine w_mv (pc1 := 5) (lv1 := [(4, .int 1), (3, .int 0), (0, .ref 30), (1, .long (ty_e xs))]) (st1 := []) rfl rfl rfl ?_
    refine w_mv (pc1 := 7) (st1 := [.int 56]) rfl rfl rfl ?_
    refine w_mv (pc1 := 9) (lv1 := [(5, .int 56), (4, .int 1), (3, .int 0), (0, .ref 30), (1, .long (ty_e xs))]) (st1 := []) rfl rfl rfl ?_
    show s_wp 19 sM_110 9 [(5, .int 56), (4, .int 1), (3, .int 0), (0, .ref 30), (1, .long (ty_e xs))] [] (ty_H xs (ty_cnt (ty_e xs) 8) fc (vp_updL (fun _ => 0) 0 (Int32.toInt64 (ty_cnt (ty_e xs) 8))) 0 (fun _ => 0)) 60 146541 (s_kont 19 sM_law 136 [(5, .int 0), (4, .int 0), (3, .ref 61), (2, .ref 30), (1, .ref 2), (0, .ref 0)] [] (.invokevirtual 54) s_fin)
    refine ty_m1 (fun o n f c hiv => ?_)
    obtain ⟨⟨hn0, hn8⟩, hf⟩ := hiv
    rcases hf with ⟨rfl, -⟩ | ⟨rfl, hg⟩
    · exact ty_mg xs fc n c hn0 hn8 o
    · obtain ⟨j, hj, hjb⟩ := hg
      exact absurd hjb (hb j hj)
