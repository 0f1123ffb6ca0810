/-! COUNT ON A FRESH PAIR (by program: wip/sx/gen_p1.py) -/
set_option maxRecDepth 20000 in
set_option maxHeartbeats 4000000 in
theorem s_k_count0 (xs : Nat → Int32) (h : xs 1 = 0) : s_wp 20 sM_law 476 [(4, .int 0), (3, .ref 61), (2, .ref 30), (1, .ref 2), (0, .ref 0)] [] (sH_121 3 xs) 60 146541 s_fin := by
  refine w_mv (pc1 := 477) (st1 := [.ref 2]) rfl rfl rfl ?_
  refine w_mv (pc1 := 478) (st1 := [.ref 0, .ref 2]) rfl rfl rfl ?_
  refine w_mv (pc1 := 480) (st1 := [.int 0, .ref 0, .ref 2]) rfl rfl rfl ?_
  refine w_mv (pc1 := 481) (st1 := [.int 1, .int 0, .ref 0, .ref 2]) rfl rfl rfl ?_
  refine w_mv (pc1 := 482) (st1 := [.int 1, .ref 0, .ref 2]) rfl rfl rfl ?_
  refine w_mv (pc1 := 483) (st1 := [.int (xs 1), .ref 2]) rfl rfl rfl ?_
  refine w_top h ?_
  refine w_call (M' := sM_7) (vals := [.ref 2, .int 0]) (rest := []) (lv' := [(0, .ref 2), (1, .int 0)]) rfl rfl rfl rfl rfl rfl rfl rfl rfl rfl ?_
  refine w_mv (pc1 := 1) (st1 := [.int 0]) rfl rfl rfl ?_
  refine w_mv (pc1 := 52) (st1 := []) rfl rfl rfl ?_
  refine w_mv (pc1 := 53) (st1 := [.ref 2]) rfl rfl rfl ?_
  refine w_mv (pc1 := 56) (st1 := [.int (-1)]) rfl rfl rfl ?_
  refine w_iret (pc1 := 486) rfl rfl rfl rfl ?_
  refine w_mv (pc1 := 487) (st1 := [.ref 30, .int (-1)]) rfl rfl rfl ?_
  refine w_mv (pc1 := 488) (st1 := [.ref 0, .ref 30, .int (-1)]) rfl rfl rfl ?_
  refine w_mv (pc1 := 490) (st1 := [.int 0, .ref 0, .ref 30, .int (-1)]) rfl rfl rfl ?_
  refine w_mv (pc1 := 491) (st1 := [.int 1, .int 0, .ref 0, .ref 30, .int (-1)]) rfl rfl rfl ?_
  refine w_mv (pc1 := 492) (st1 := [.int 1, .ref 0, .ref 30, .int (-1)]) rfl rfl rfl ?_
  refine w_mv (pc1 := 493) (st1 := [.int (xs 1), .ref 30, .int (-1)]) rfl rfl rfl ?_
  refine w_top h ?_
  refine w_call (M' := sM_159) (vals := [.ref 30, .int 0]) (rest := [.int (-1)]) (lv' := [(0, .ref 30), (1, .int 0)]) rfl rfl rfl rfl rfl rfl rfl rfl rfl rfl ?_
  refine w_mv (pc1 := 1) (st1 := [.ref 30]) rfl rfl rfl ?_
  refine w_mv (pc1 := 2) (st1 := [.int 0, .ref 30]) rfl rfl rfl ?_
  refine w_st (pc1 := 5) (st1 := []) (hs1 := sH_121 3 xs) (dc1 := 0) (ds1 := 0) (dc2 := 60) (ds2 := 146541) rfl rfl rfl rfl rfl ?_
  refine w_mv (pc1 := 6) (st1 := [.int 0]) rfl rfl rfl ?_
  refine w_mv (pc1 := 9) (st1 := []) rfl rfl rfl ?_
  refine w_mv (pc1 := 10) (st1 := [.ref 30]) rfl rfl rfl ?_
  refine w_mv (pc1 := 13) (st1 := [.int (-1)]) rfl rfl rfl ?_
  refine w_iret (pc1 := 496) rfl rfl rfl rfl ?_
  refine w_mv (pc1 := 501) (st1 := []) rfl rfl rfl ?_
  refine w_mv (pc1 := 504) (lv1 := [(4, .int 3), (3, .ref 61), (2, .ref 30), (1, .ref 2), (0, .ref 0)]) (st1 := []) rfl rfl rfl ?_
  refine w_mv (pc1 := 23) (st1 := []) rfl rfl rfl ?_
  refine w_mv (pc1 := 25) (st1 := [.int 3]) rfl rfl rfl ?_
  refine w_mv (pc1 := 26) (st1 := [.ref 0, .int 3]) rfl rfl rfl ?_
  refine w_mv (pc1 := 27) (st1 := [.int 3, .int 3]) rfl rfl rfl ?_
  refine w_mv (pc1 := 28) (st1 := [.int 3, .int 3, .int 3]) rfl rfl rfl ?_
  refine w_mv (pc1 := 29) (st1 := [.int 0, .int 3]) rfl rfl rfl ?_
  refine w_mv (pc1 := 507) (st1 := []) rfl rfl rfl ?_
  refine w_mv (pc1 := 508) (st1 := [.int 1]) rfl rfl rfl ?_
  exact sx_wp.stop rfl rfl rfl ⟨rfl, by decide, by decide⟩
set_option maxRecDepth 20000 in
set_option maxHeartbeats 4000000 in
theorem s_k_count1 (xs : Nat → Int32) (h : xs 1 = 1) : s_wp 20 sM_law 476 [(4, .int 0), (3, .ref 61), (2, .ref 30), (1, .ref 2), (0, .ref 0)] [] (sH_121 3 xs) 60 146541 s_fin := by
  refine w_mv (pc1 := 477) (st1 := [.ref 2]) rfl rfl rfl ?_
  refine w_mv (pc1 := 478) (st1 := [.ref 0, .ref 2]) rfl rfl rfl ?_
  refine w_mv (pc1 := 480) (st1 := [.int 0, .ref 0, .ref 2]) rfl rfl rfl ?_
  refine w_mv (pc1 := 481) (st1 := [.int 1, .int 0, .ref 0, .ref 2]) rfl rfl rfl ?_
  refine w_mv (pc1 := 482) (st1 := [.int 1, .ref 0, .ref 2]) rfl rfl rfl ?_
  refine w_mv (pc1 := 483) (st1 := [.int (xs 1), .ref 2]) rfl rfl rfl ?_
  refine w_top h ?_
  refine w_call (M' := sM_7) (vals := [.ref 2, .int 1]) (rest := []) (lv' := [(0, .ref 2), (1, .int 1)]) rfl rfl rfl rfl rfl rfl rfl rfl rfl rfl ?_
  refine w_mv (pc1 := 1) (st1 := [.int 1]) rfl rfl rfl ?_
  refine w_mv (pc1 := 57) (st1 := []) rfl rfl rfl ?_
  refine w_mv (pc1 := 58) (st1 := [.ref 2]) rfl rfl rfl ?_
  refine w_mv (pc1 := 61) (st1 := [.ref 3]) rfl rfl rfl ?_
  refine w_call (M' := sM_8) (vals := [.ref 3]) (rest := []) (lv' := [(0, .ref 3)]) rfl rfl rfl rfl rfl rfl rfl rfl rfl rfl ?_
  refine w_mv (pc1 := 1) (st1 := [.ref 3]) rfl rfl rfl ?_
  refine w_mv (pc1 := 4) (st1 := [.int 0]) rfl rfl rfl ?_
  refine w_iret (pc1 := 64) rfl rfl rfl rfl ?_
  refine w_iret (pc1 := 486) rfl rfl rfl rfl ?_
  refine w_mv (pc1 := 487) (st1 := [.ref 30, .int 0]) rfl rfl rfl ?_
  refine w_mv (pc1 := 488) (st1 := [.ref 0, .ref 30, .int 0]) rfl rfl rfl ?_
  refine w_mv (pc1 := 490) (st1 := [.int 0, .ref 0, .ref 30, .int 0]) rfl rfl rfl ?_
  refine w_mv (pc1 := 491) (st1 := [.int 1, .int 0, .ref 0, .ref 30, .int 0]) rfl rfl rfl ?_
  refine w_mv (pc1 := 492) (st1 := [.int 1, .ref 0, .ref 30, .int 0]) rfl rfl rfl ?_
  refine w_mv (pc1 := 493) (st1 := [.int (xs 1), .ref 30, .int 0]) rfl rfl rfl ?_
  refine w_top h ?_
  refine w_call (M' := sM_159) (vals := [.ref 30, .int 1]) (rest := [.int 0]) (lv' := [(0, .ref 30), (1, .int 1)]) rfl rfl rfl rfl rfl rfl rfl rfl rfl rfl ?_
  refine w_mv (pc1 := 1) (st1 := [.ref 30]) rfl rfl rfl ?_
  refine w_mv (pc1 := 2) (st1 := [.int 0, .ref 30]) rfl rfl rfl ?_
  refine w_st (pc1 := 5) (st1 := []) (hs1 := sH_121 3 xs) (dc1 := 0) (ds1 := 0) (dc2 := 60) (ds2 := 146541) rfl rfl rfl rfl rfl ?_
  refine w_mv (pc1 := 6) (st1 := [.int 1]) rfl rfl rfl ?_
  refine w_mv (pc1 := 14) (st1 := []) rfl rfl rfl ?_
  refine w_mv (pc1 := 15) (st1 := [.int 1]) rfl rfl rfl ?_
  refine w_mv (pc1 := 16) (st1 := [.int 1, .int 1]) rfl rfl rfl ?_
  refine w_mv (pc1 := 19) (st1 := []) rfl rfl rfl ?_
  refine w_mv (pc1 := 20) (st1 := [.ref 30]) rfl rfl rfl ?_
  refine w_mv (pc1 := 23) (st1 := [.int 0]) rfl rfl rfl ?_
  refine w_iret (pc1 := 496) rfl rfl rfl rfl ?_
  refine w_mv (pc1 := 501) (st1 := []) rfl rfl rfl ?_
  refine w_mv (pc1 := 504) (lv1 := [(4, .int 3), (3, .ref 61), (2, .ref 30), (1, .ref 2), (0, .ref 0)]) (st1 := []) rfl rfl rfl ?_
  refine w_mv (pc1 := 23) (st1 := []) rfl rfl rfl ?_
  refine w_mv (pc1 := 25) (st1 := [.int 3]) rfl rfl rfl ?_
  refine w_mv (pc1 := 26) (st1 := [.ref 0, .int 3]) rfl rfl rfl ?_
  refine w_mv (pc1 := 27) (st1 := [.int 3, .int 3]) rfl rfl rfl ?_
  refine w_mv (pc1 := 28) (st1 := [.int 3, .int 3, .int 3]) rfl rfl rfl ?_
  refine w_mv (pc1 := 29) (st1 := [.int 0, .int 3]) rfl rfl rfl ?_
  refine w_mv (pc1 := 507) (st1 := []) rfl rfl rfl ?_
  refine w_mv (pc1 := 508) (st1 := [.int 1]) rfl rfl rfl ?_
  exact sx_wp.stop rfl rfl rfl ⟨rfl, by decide, by decide⟩
set_option maxRecDepth 20000 in
set_option maxHeartbeats 4000000 in
theorem s_k_count2 (xs : Nat → Int32) (h : xs 1 = 2) : s_wp 20 sM_law 476 [(4, .int 0), (3, .ref 61), (2, .ref 30), (1, .ref 2), (0, .ref 0)] [] (sH_121 3 xs) 60 146541 s_fin := by
  refine w_mv (pc1 := 477) (st1 := [.ref 2]) rfl rfl rfl ?_
  refine w_mv (pc1 := 478) (st1 := [.ref 0, .ref 2]) rfl rfl rfl ?_
  refine w_mv (pc1 := 480) (st1 := [.int 0, .ref 0, .ref 2]) rfl rfl rfl ?_
  refine w_mv (pc1 := 481) (st1 := [.int 1, .int 0, .ref 0, .ref 2]) rfl rfl rfl ?_
  refine w_mv (pc1 := 482) (st1 := [.int 1, .ref 0, .ref 2]) rfl rfl rfl ?_
  refine w_mv (pc1 := 483) (st1 := [.int (xs 1), .ref 2]) rfl rfl rfl ?_
  refine w_top h ?_
  refine w_call (M' := sM_7) (vals := [.ref 2, .int 2]) (rest := []) (lv' := [(0, .ref 2), (1, .int 2)]) rfl rfl rfl rfl rfl rfl rfl rfl rfl rfl ?_
  refine w_mv (pc1 := 1) (st1 := [.int 2]) rfl rfl rfl ?_
  refine w_mv (pc1 := 65) (st1 := []) rfl rfl rfl ?_
  refine w_mv (pc1 := 66) (st1 := [.ref 2]) rfl rfl rfl ?_
  refine w_mv (pc1 := 69) (st1 := [.ref 5]) rfl rfl rfl ?_
  refine w_call (M' := sM_165) (vals := [.ref 5]) (rest := []) (lv' := [(0, .ref 5)]) rfl rfl rfl rfl rfl rfl rfl rfl rfl rfl ?_
  refine w_mv (pc1 := 1) (st1 := [.ref 5]) rfl rfl rfl ?_
  refine w_mv (pc1 := 4) (st1 := [.int 0]) rfl rfl rfl ?_
  refine w_iret (pc1 := 72) rfl rfl rfl rfl ?_
  refine w_iret (pc1 := 486) rfl rfl rfl rfl ?_
  refine w_mv (pc1 := 487) (st1 := [.ref 30, .int 0]) rfl rfl rfl ?_
  refine w_mv (pc1 := 488) (st1 := [.ref 0, .ref 30, .int 0]) rfl rfl rfl ?_
  refine w_mv (pc1 := 490) (st1 := [.int 0, .ref 0, .ref 30, .int 0]) rfl rfl rfl ?_
  refine w_mv (pc1 := 491) (st1 := [.int 1, .int 0, .ref 0, .ref 30, .int 0]) rfl rfl rfl ?_
  refine w_mv (pc1 := 492) (st1 := [.int 1, .ref 0, .ref 30, .int 0]) rfl rfl rfl ?_
  refine w_mv (pc1 := 493) (st1 := [.int (xs 1), .ref 30, .int 0]) rfl rfl rfl ?_
  refine w_top h ?_
  refine w_call (M' := sM_159) (vals := [.ref 30, .int 2]) (rest := [.int 0]) (lv' := [(0, .ref 30), (1, .int 2)]) rfl rfl rfl rfl rfl rfl rfl rfl rfl rfl ?_
  refine w_mv (pc1 := 1) (st1 := [.ref 30]) rfl rfl rfl ?_
  refine w_mv (pc1 := 2) (st1 := [.int 0, .ref 30]) rfl rfl rfl ?_
  refine w_st (pc1 := 5) (st1 := []) (hs1 := sH_121 3 xs) (dc1 := 0) (ds1 := 0) (dc2 := 60) (ds2 := 146541) rfl rfl rfl rfl rfl ?_
  refine w_mv (pc1 := 6) (st1 := [.int 2]) rfl rfl rfl ?_
  refine w_mv (pc1 := 14) (st1 := []) rfl rfl rfl ?_
  refine w_mv (pc1 := 15) (st1 := [.int 2]) rfl rfl rfl ?_
  refine w_mv (pc1 := 16) (st1 := [.int 1, .int 2]) rfl rfl rfl ?_
  refine w_mv (pc1 := 24) (st1 := []) rfl rfl rfl ?_
  refine w_mv (pc1 := 25) (st1 := [.int 2]) rfl rfl rfl ?_
  refine w_mv (pc1 := 26) (st1 := [.int 2, .int 2]) rfl rfl rfl ?_
  refine w_mv (pc1 := 29) (st1 := []) rfl rfl rfl ?_
  refine w_mv (pc1 := 30) (st1 := [.ref 30]) rfl rfl rfl ?_
  refine w_mv (pc1 := 33) (st1 := [.int 0]) rfl rfl rfl ?_
  refine w_iret (pc1 := 496) rfl rfl rfl rfl ?_
  refine w_mv (pc1 := 501) (st1 := []) rfl rfl rfl ?_
  refine w_mv (pc1 := 504) (lv1 := [(4, .int 3), (3, .ref 61), (2, .ref 30), (1, .ref 2), (0, .ref 0)]) (st1 := []) rfl rfl rfl ?_
  refine w_mv (pc1 := 23) (st1 := []) rfl rfl rfl ?_
  refine w_mv (pc1 := 25) (st1 := [.int 3]) rfl rfl rfl ?_
  refine w_mv (pc1 := 26) (st1 := [.ref 0, .int 3]) rfl rfl rfl ?_
  refine w_mv (pc1 := 27) (st1 := [.int 3, .int 3]) rfl rfl rfl ?_
  refine w_mv (pc1 := 28) (st1 := [.int 3, .int 3, .int 3]) rfl rfl rfl ?_
  refine w_mv (pc1 := 29) (st1 := [.int 0, .int 3]) rfl rfl rfl ?_
  refine w_mv (pc1 := 507) (st1 := []) rfl rfl rfl ?_
  refine w_mv (pc1 := 508) (st1 := [.int 1]) rfl rfl rfl ?_
  exact sx_wp.stop rfl rfl rfl ⟨rfl, by decide, by decide⟩
set_option maxRecDepth 20000 in
set_option maxHeartbeats 4000000 in
theorem s_k_count3 (xs : Nat → Int32) (h : xs 1 = 3) : s_wp 20 sM_law 476 [(4, .int 0), (3, .ref 61), (2, .ref 30), (1, .ref 2), (0, .ref 0)] [] (sH_121 3 xs) 60 146541 s_fin := by
  refine w_mv (pc1 := 477) (st1 := [.ref 2]) rfl rfl rfl ?_
  refine w_mv (pc1 := 478) (st1 := [.ref 0, .ref 2]) rfl rfl rfl ?_
  refine w_mv (pc1 := 480) (st1 := [.int 0, .ref 0, .ref 2]) rfl rfl rfl ?_
  refine w_mv (pc1 := 481) (st1 := [.int 1, .int 0, .ref 0, .ref 2]) rfl rfl rfl ?_
  refine w_mv (pc1 := 482) (st1 := [.int 1, .ref 0, .ref 2]) rfl rfl rfl ?_
  refine w_mv (pc1 := 483) (st1 := [.int (xs 1), .ref 2]) rfl rfl rfl ?_
  refine w_top h ?_
  refine w_call (M' := sM_7) (vals := [.ref 2, .int 3]) (rest := []) (lv' := [(0, .ref 2), (1, .int 3)]) rfl rfl rfl rfl rfl rfl rfl rfl rfl rfl ?_
  refine w_mv (pc1 := 1) (st1 := [.int 3]) rfl rfl rfl ?_
  refine w_mv (pc1 := 73) (st1 := []) rfl rfl rfl ?_
  refine w_mv (pc1 := 74) (st1 := [.ref 2]) rfl rfl rfl ?_
  refine w_mv (pc1 := 77) (st1 := [.ref 6]) rfl rfl rfl ?_
  refine w_call (M' := sM_9) (vals := [.ref 6]) (rest := []) (lv' := [(0, .ref 6)]) rfl rfl rfl rfl rfl rfl rfl rfl rfl rfl ?_
  refine w_mv (pc1 := 1) (st1 := [.ref 6]) rfl rfl rfl ?_
  refine w_mv (pc1 := 4) (st1 := [.int 0]) rfl rfl rfl ?_
  refine w_iret (pc1 := 80) rfl rfl rfl rfl ?_
  refine w_iret (pc1 := 486) rfl rfl rfl rfl ?_
  refine w_mv (pc1 := 487) (st1 := [.ref 30, .int 0]) rfl rfl rfl ?_
  refine w_mv (pc1 := 488) (st1 := [.ref 0, .ref 30, .int 0]) rfl rfl rfl ?_
  refine w_mv (pc1 := 490) (st1 := [.int 0, .ref 0, .ref 30, .int 0]) rfl rfl rfl ?_
  refine w_mv (pc1 := 491) (st1 := [.int 1, .int 0, .ref 0, .ref 30, .int 0]) rfl rfl rfl ?_
  refine w_mv (pc1 := 492) (st1 := [.int 1, .ref 0, .ref 30, .int 0]) rfl rfl rfl ?_
  refine w_mv (pc1 := 493) (st1 := [.int (xs 1), .ref 30, .int 0]) rfl rfl rfl ?_
  refine w_top h ?_
  refine w_call (M' := sM_159) (vals := [.ref 30, .int 3]) (rest := [.int 0]) (lv' := [(0, .ref 30), (1, .int 3)]) rfl rfl rfl rfl rfl rfl rfl rfl rfl rfl ?_
  refine w_mv (pc1 := 1) (st1 := [.ref 30]) rfl rfl rfl ?_
  refine w_mv (pc1 := 2) (st1 := [.int 0, .ref 30]) rfl rfl rfl ?_
  refine w_st (pc1 := 5) (st1 := []) (hs1 := sH_121 3 xs) (dc1 := 0) (ds1 := 0) (dc2 := 60) (ds2 := 146541) rfl rfl rfl rfl rfl ?_
  refine w_mv (pc1 := 6) (st1 := [.int 3]) rfl rfl rfl ?_
  refine w_mv (pc1 := 14) (st1 := []) rfl rfl rfl ?_
  refine w_mv (pc1 := 15) (st1 := [.int 3]) rfl rfl rfl ?_
  refine w_mv (pc1 := 16) (st1 := [.int 1, .int 3]) rfl rfl rfl ?_
  refine w_mv (pc1 := 24) (st1 := []) rfl rfl rfl ?_
  refine w_mv (pc1 := 25) (st1 := [.int 3]) rfl rfl rfl ?_
  refine w_mv (pc1 := 26) (st1 := [.int 2, .int 3]) rfl rfl rfl ?_
  refine w_mv (pc1 := 34) (st1 := []) rfl rfl rfl ?_
  refine w_mv (pc1 := 35) (st1 := [.int 3]) rfl rfl rfl ?_
  refine w_mv (pc1 := 36) (st1 := [.int 3, .int 3]) rfl rfl rfl ?_
  refine w_mv (pc1 := 38) (st1 := [.int 8, .int 3, .int 3]) rfl rfl rfl ?_
  refine w_call (M' := sM_111) (vals := [.int 3, .int 3, .int 8]) (rest := []) (lv' := [(0, .int 3), (1, .int 3), (2, .int 8)]) rfl rfl rfl rfl rfl rfl rfl rfl rfl rfl ?_
  refine w_mv (pc1 := 1) (st1 := [.int 3]) rfl rfl rfl ?_
  refine w_mv (pc1 := 2) (st1 := [.int 3, .int 3]) rfl rfl rfl ?_
  refine w_mv (pc1 := 5) (st1 := []) rfl rfl rfl ?_
  refine w_mv (pc1 := 6) (st1 := [.int 3]) rfl rfl rfl ?_
  refine w_mv (pc1 := 7) (st1 := [.int 8, .int 3]) rfl rfl rfl ?_
  refine w_mv (pc1 := 10) (st1 := []) rfl rfl rfl ?_
  refine w_mv (pc1 := 11) (st1 := [.int 1]) rfl rfl rfl ?_
  refine w_mv (pc1 := 15) (st1 := [.int 1]) rfl rfl rfl ?_
  refine w_iret (pc1 := 41) rfl rfl rfl rfl ?_
  refine w_mv (pc1 := 57) (st1 := []) rfl rfl rfl ?_
  refine w_mv (pc1 := 58) (st1 := [.ref 30]) rfl rfl rfl ?_
  refine w_mv (pc1 := 61) (st1 := [.int 0]) rfl rfl rfl ?_
  refine w_mv (pc1 := 64) (st1 := []) rfl rfl rfl ?_
  refine w_mv (pc1 := 65) (st1 := [.int 0]) rfl rfl rfl ?_
  refine w_iret (pc1 := 496) rfl rfl rfl rfl ?_
  refine w_mv (pc1 := 501) (st1 := []) rfl rfl rfl ?_
  refine w_mv (pc1 := 504) (lv1 := [(4, .int 3), (3, .ref 61), (2, .ref 30), (1, .ref 2), (0, .ref 0)]) (st1 := []) rfl rfl rfl ?_
  refine w_mv (pc1 := 23) (st1 := []) rfl rfl rfl ?_
  refine w_mv (pc1 := 25) (st1 := [.int 3]) rfl rfl rfl ?_
  refine w_mv (pc1 := 26) (st1 := [.ref 0, .int 3]) rfl rfl rfl ?_
  refine w_mv (pc1 := 27) (st1 := [.int 3, .int 3]) rfl rfl rfl ?_
  refine w_mv (pc1 := 28) (st1 := [.int 3, .int 3, .int 3]) rfl rfl rfl ?_
  refine w_mv (pc1 := 29) (st1 := [.int 0, .int 3]) rfl rfl rfl ?_
  refine w_mv (pc1 := 507) (st1 := []) rfl rfl rfl ?_
  refine w_mv (pc1 := 508) (st1 := [.int 1]) rfl rfl rfl ?_
  exact sx_wp.stop rfl rfl rfl ⟨rfl, by decide, by decide⟩
set_option maxRecDepth 20000 in
set_option maxHeartbeats 4000000 in
theorem s_k_count4 (xs : Nat → Int32) (h : xs 1 = 4) : s_wp 20 sM_law 476 [(4, .int 0), (3, .ref 61), (2, .ref 30), (1, .ref 2), (0, .ref 0)] [] (sH_121 3 xs) 60 146541 s_fin := by
  refine w_mv (pc1 := 477) (st1 := [.ref 2]) rfl rfl rfl ?_
  refine w_mv (pc1 := 478) (st1 := [.ref 0, .ref 2]) rfl rfl rfl ?_
  refine w_mv (pc1 := 480) (st1 := [.int 0, .ref 0, .ref 2]) rfl rfl rfl ?_
  refine w_mv (pc1 := 481) (st1 := [.int 1, .int 0, .ref 0, .ref 2]) rfl rfl rfl ?_
  refine w_mv (pc1 := 482) (st1 := [.int 1, .ref 0, .ref 2]) rfl rfl rfl ?_
  refine w_mv (pc1 := 483) (st1 := [.int (xs 1), .ref 2]) rfl rfl rfl ?_
  refine w_top h ?_
  refine w_call (M' := sM_7) (vals := [.ref 2, .int 4]) (rest := []) (lv' := [(0, .ref 2), (1, .int 4)]) rfl rfl rfl rfl rfl rfl rfl rfl rfl rfl ?_
  refine w_mv (pc1 := 1) (st1 := [.int 4]) rfl rfl rfl ?_
  refine w_mv (pc1 := 81) (st1 := []) rfl rfl rfl ?_
  refine w_mv (pc1 := 82) (st1 := [.ref 2]) rfl rfl rfl ?_
  refine w_mv (pc1 := 85) (st1 := [.ref 6]) rfl rfl rfl ?_
  refine w_call (M' := sM_10) (vals := [.ref 6]) (rest := []) (lv' := [(0, .ref 6)]) rfl rfl rfl rfl rfl rfl rfl rfl rfl rfl ?_
  refine w_mv (pc1 := 1) (st1 := [.int 0]) rfl rfl rfl ?_
  refine w_mv (pc1 := 2) (lv1 := [(1, .int 0), (0, .ref 6)]) (st1 := []) rfl rfl rfl ?_
  refine w_mv (pc1 := 3) (st1 := [.int 0]) rfl rfl rfl ?_
  refine w_mv (pc1 := 4) (lv1 := [(2, .int 0), (1, .int 0), (0, .ref 6)]) (st1 := []) rfl rfl rfl ?_
  refine w_mv (pc1 := 5) (st1 := [.int 0]) rfl rfl rfl ?_
  refine w_mv (pc1 := 6) (st1 := [.int 4, .int 0]) rfl rfl rfl ?_
  refine w_mv (pc1 := 9) (st1 := []) rfl rfl rfl ?_
  refine w_mv (pc1 := 10) (st1 := [.int 0]) rfl rfl rfl ?_
  refine w_mv (pc1 := 11) (st1 := [.ref 6, .int 0]) rfl rfl rfl ?_
  refine w_mv (pc1 := 14) (st1 := [.ref 14, .int 0]) rfl rfl rfl ?_
  refine w_mv (pc1 := 15) (st1 := [.int 0, .ref 14, .int 0]) rfl rfl rfl ?_
  refine w_mv (pc1 := 16) (st1 := [.ref 20, .int 0]) rfl rfl rfl ?_
  refine w_call (M' := sM_11) (vals := [.ref 20]) (rest := [.int 0]) (lv' := [(0, .ref 20)]) rfl rfl rfl rfl rfl rfl rfl rfl rfl rfl ?_
  refine w_mv (pc1 := 1) (st1 := [.ref 20]) rfl rfl rfl ?_
  refine w_mv (pc1 := 4) (st1 := [.int 0]) rfl rfl rfl ?_
  refine w_iret (pc1 := 19) rfl rfl rfl rfl ?_
  refine w_mv (pc1 := 20) (st1 := [.int 0]) rfl rfl rfl ?_
  refine w_mv (pc1 := 21) (lv1 := [(1, .int 0), (2, .int 0), (0, .ref 6)]) (st1 := []) rfl rfl rfl ?_
  refine w_mv (pc1 := 24) (lv1 := [(2, .int 1), (1, .int 0), (0, .ref 6)]) (st1 := []) rfl rfl rfl ?_
  refine w_mv (pc1 := 4) (st1 := []) rfl rfl rfl ?_
  refine w_mv (pc1 := 5) (st1 := [.int 1]) rfl rfl rfl ?_
  refine w_mv (pc1 := 6) (st1 := [.int 4, .int 1]) rfl rfl rfl ?_
  refine w_mv (pc1 := 9) (st1 := []) rfl rfl rfl ?_
  refine w_mv (pc1 := 10) (st1 := [.int 0]) rfl rfl rfl ?_
  refine w_mv (pc1 := 11) (st1 := [.ref 6, .int 0]) rfl rfl rfl ?_
  refine w_mv (pc1 := 14) (st1 := [.ref 14, .int 0]) rfl rfl rfl ?_
  refine w_mv (pc1 := 15) (st1 := [.int 1, .ref 14, .int 0]) rfl rfl rfl ?_
  refine w_mv (pc1 := 16) (st1 := [.ref 22, .int 0]) rfl rfl rfl ?_
  refine w_call (M' := sM_11) (vals := [.ref 22]) (rest := [.int 0]) (lv' := [(0, .ref 22)]) rfl rfl rfl rfl rfl rfl rfl rfl rfl rfl ?_
  refine w_mv (pc1 := 1) (st1 := [.ref 22]) rfl rfl rfl ?_
  refine w_mv (pc1 := 4) (st1 := [.int 0]) rfl rfl rfl ?_
  refine w_iret (pc1 := 19) rfl rfl rfl rfl ?_
  refine w_mv (pc1 := 20) (st1 := [.int 0]) rfl rfl rfl ?_
  refine w_mv (pc1 := 21) (lv1 := [(1, .int 0), (2, .int 1), (0, .ref 6)]) (st1 := []) rfl rfl rfl ?_
  refine w_mv (pc1 := 24) (lv1 := [(2, .int 2), (1, .int 0), (0, .ref 6)]) (st1 := []) rfl rfl rfl ?_
  refine w_mv (pc1 := 4) (st1 := []) rfl rfl rfl ?_
  refine w_mv (pc1 := 5) (st1 := [.int 2]) rfl rfl rfl ?_
  refine w_mv (pc1 := 6) (st1 := [.int 4, .int 2]) rfl rfl rfl ?_
  refine w_mv (pc1 := 9) (st1 := []) rfl rfl rfl ?_
  refine w_mv (pc1 := 10) (st1 := [.int 0]) rfl rfl rfl ?_
  refine w_mv (pc1 := 11) (st1 := [.ref 6, .int 0]) rfl rfl rfl ?_
  refine w_mv (pc1 := 14) (st1 := [.ref 14, .int 0]) rfl rfl rfl ?_
  refine w_mv (pc1 := 15) (st1 := [.int 2, .ref 14, .int 0]) rfl rfl rfl ?_
  refine w_mv (pc1 := 16) (st1 := [.ref 24, .int 0]) rfl rfl rfl ?_
  refine w_call (M' := sM_11) (vals := [.ref 24]) (rest := [.int 0]) (lv' := [(0, .ref 24)]) rfl rfl rfl rfl rfl rfl rfl rfl rfl rfl ?_
  refine w_mv (pc1 := 1) (st1 := [.ref 24]) rfl rfl rfl ?_
  refine w_mv (pc1 := 4) (st1 := [.int 0]) rfl rfl rfl ?_
  refine w_iret (pc1 := 19) rfl rfl rfl rfl ?_
  refine w_mv (pc1 := 20) (st1 := [.int 0]) rfl rfl rfl ?_
  refine w_mv (pc1 := 21) (lv1 := [(1, .int 0), (2, .int 2), (0, .ref 6)]) (st1 := []) rfl rfl rfl ?_
  refine w_mv (pc1 := 24) (lv1 := [(2, .int 3), (1, .int 0), (0, .ref 6)]) (st1 := []) rfl rfl rfl ?_
  refine w_mv (pc1 := 4) (st1 := []) rfl rfl rfl ?_
  refine w_mv (pc1 := 5) (st1 := [.int 3]) rfl rfl rfl ?_
  refine w_mv (pc1 := 6) (st1 := [.int 4, .int 3]) rfl rfl rfl ?_
  refine w_mv (pc1 := 9) (st1 := []) rfl rfl rfl ?_
  refine w_mv (pc1 := 10) (st1 := [.int 0]) rfl rfl rfl ?_
  refine w_mv (pc1 := 11) (st1 := [.ref 6, .int 0]) rfl rfl rfl ?_
  refine w_mv (pc1 := 14) (st1 := [.ref 14, .int 0]) rfl rfl rfl ?_
  refine w_mv (pc1 := 15) (st1 := [.int 3, .ref 14, .int 0]) rfl rfl rfl ?_
  refine w_mv (pc1 := 16) (st1 := [.ref 26, .int 0]) rfl rfl rfl ?_
  refine w_call (M' := sM_11) (vals := [.ref 26]) (rest := [.int 0]) (lv' := [(0, .ref 26)]) rfl rfl rfl rfl rfl rfl rfl rfl rfl rfl ?_
  refine w_mv (pc1 := 1) (st1 := [.ref 26]) rfl rfl rfl ?_
  refine w_mv (pc1 := 4) (st1 := [.int 0]) rfl rfl rfl ?_
  refine w_iret (pc1 := 19) rfl rfl rfl rfl ?_
  refine w_mv (pc1 := 20) (st1 := [.int 0]) rfl rfl rfl ?_
  refine w_mv (pc1 := 21) (lv1 := [(1, .int 0), (2, .int 3), (0, .ref 6)]) (st1 := []) rfl rfl rfl ?_
  refine w_mv (pc1 := 24) (lv1 := [(2, .int 4), (1, .int 0), (0, .ref 6)]) (st1 := []) rfl rfl rfl ?_
  refine w_mv (pc1 := 4) (st1 := []) rfl rfl rfl ?_
  refine w_mv (pc1 := 5) (st1 := [.int 4]) rfl rfl rfl ?_
  refine w_mv (pc1 := 6) (st1 := [.int 4, .int 4]) rfl rfl rfl ?_
  refine w_mv (pc1 := 27) (st1 := []) rfl rfl rfl ?_
  refine w_mv (pc1 := 28) (st1 := [.int 0]) rfl rfl rfl ?_
  refine w_iret (pc1 := 88) rfl rfl rfl rfl ?_
  refine w_iret (pc1 := 486) rfl rfl rfl rfl ?_
  refine w_mv (pc1 := 487) (st1 := [.ref 30, .int 0]) rfl rfl rfl ?_
  refine w_mv (pc1 := 488) (st1 := [.ref 0, .ref 30, .int 0]) rfl rfl rfl ?_
  refine w_mv (pc1 := 490) (st1 := [.int 0, .ref 0, .ref 30, .int 0]) rfl rfl rfl ?_
  refine w_mv (pc1 := 491) (st1 := [.int 1, .int 0, .ref 0, .ref 30, .int 0]) rfl rfl rfl ?_
  refine w_mv (pc1 := 492) (st1 := [.int 1, .ref 0, .ref 30, .int 0]) rfl rfl rfl ?_
  refine w_mv (pc1 := 493) (st1 := [.int (xs 1), .ref 30, .int 0]) rfl rfl rfl ?_
  refine w_top h ?_
  refine w_call (M' := sM_159) (vals := [.ref 30, .int 4]) (rest := [.int 0]) (lv' := [(0, .ref 30), (1, .int 4)]) rfl rfl rfl rfl rfl rfl rfl rfl rfl rfl ?_
  refine w_mv (pc1 := 1) (st1 := [.ref 30]) rfl rfl rfl ?_
  refine w_mv (pc1 := 2) (st1 := [.int 0, .ref 30]) rfl rfl rfl ?_
  refine w_st (pc1 := 5) (st1 := []) (hs1 := sH_121 3 xs) (dc1 := 0) (ds1 := 0) (dc2 := 60) (ds2 := 146541) rfl rfl rfl rfl rfl ?_
  refine w_mv (pc1 := 6) (st1 := [.int 4]) rfl rfl rfl ?_
  refine w_mv (pc1 := 14) (st1 := []) rfl rfl rfl ?_
  refine w_mv (pc1 := 15) (st1 := [.int 4]) rfl rfl rfl ?_
  refine w_mv (pc1 := 16) (st1 := [.int 1, .int 4]) rfl rfl rfl ?_
  refine w_mv (pc1 := 24) (st1 := []) rfl rfl rfl ?_
  refine w_mv (pc1 := 25) (st1 := [.int 4]) rfl rfl rfl ?_
  refine w_mv (pc1 := 26) (st1 := [.int 2, .int 4]) rfl rfl rfl ?_
  refine w_mv (pc1 := 34) (st1 := []) rfl rfl rfl ?_
  refine w_mv (pc1 := 35) (st1 := [.int 4]) rfl rfl rfl ?_
  refine w_mv (pc1 := 36) (st1 := [.int 3, .int 4]) rfl rfl rfl ?_
  refine w_mv (pc1 := 38) (st1 := [.int 8, .int 3, .int 4]) rfl rfl rfl ?_
  refine w_call (M' := sM_111) (vals := [.int 4, .int 3, .int 8]) (rest := []) (lv' := [(0, .int 4), (1, .int 3), (2, .int 8)]) rfl rfl rfl rfl rfl rfl rfl rfl rfl rfl ?_
  refine w_mv (pc1 := 1) (st1 := [.int 4]) rfl rfl rfl ?_
  refine w_mv (pc1 := 2) (st1 := [.int 3, .int 4]) rfl rfl rfl ?_
  refine w_mv (pc1 := 5) (st1 := []) rfl rfl rfl ?_
  refine w_mv (pc1 := 6) (st1 := [.int 4]) rfl rfl rfl ?_
  refine w_mv (pc1 := 7) (st1 := [.int 8, .int 4]) rfl rfl rfl ?_
  refine w_mv (pc1 := 10) (st1 := []) rfl rfl rfl ?_
  refine w_mv (pc1 := 11) (st1 := [.int 1]) rfl rfl rfl ?_
  refine w_mv (pc1 := 15) (st1 := [.int 1]) rfl rfl rfl ?_
  refine w_iret (pc1 := 41) rfl rfl rfl rfl ?_
  refine w_mv (pc1 := 57) (st1 := []) rfl rfl rfl ?_
  refine w_mv (pc1 := 58) (st1 := [.ref 30]) rfl rfl rfl ?_
  refine w_mv (pc1 := 61) (st1 := [.int 0]) rfl rfl rfl ?_
  refine w_mv (pc1 := 64) (st1 := []) rfl rfl rfl ?_
  refine w_mv (pc1 := 65) (st1 := [.int 0]) rfl rfl rfl ?_
  refine w_iret (pc1 := 496) rfl rfl rfl rfl ?_
  refine w_mv (pc1 := 501) (st1 := []) rfl rfl rfl ?_
  refine w_mv (pc1 := 504) (lv1 := [(4, .int 3), (3, .ref 61), (2, .ref 30), (1, .ref 2), (0, .ref 0)]) (st1 := []) rfl rfl rfl ?_
  refine w_mv (pc1 := 23) (st1 := []) rfl rfl rfl ?_
  refine w_mv (pc1 := 25) (st1 := [.int 3]) rfl rfl rfl ?_
  refine w_mv (pc1 := 26) (st1 := [.ref 0, .int 3]) rfl rfl rfl ?_
  refine w_mv (pc1 := 27) (st1 := [.int 3, .int 3]) rfl rfl rfl ?_
  refine w_mv (pc1 := 28) (st1 := [.int 3, .int 3, .int 3]) rfl rfl rfl ?_
  refine w_mv (pc1 := 29) (st1 := [.int 0, .int 3]) rfl rfl rfl ?_
  refine w_mv (pc1 := 507) (st1 := []) rfl rfl rfl ?_
  refine w_mv (pc1 := 508) (st1 := [.int 1]) rfl rfl rfl ?_
  exact sx_wp.stop rfl rfl rfl ⟨rfl, by decide, by decide⟩
set_option maxRecDepth 20000 in
set_option maxHeartbeats 4000000 in
theorem s_k_count5 (xs : Nat → Int32) (h : xs 1 = 5) : s_wp 20 sM_law 476 [(4, .int 0), (3, .ref 61), (2, .ref 30), (1, .ref 2), (0, .ref 0)] [] (sH_121 3 xs) 60 146541 s_fin := by
  refine w_mv (pc1 := 477) (st1 := [.ref 2]) rfl rfl rfl ?_
  refine w_mv (pc1 := 478) (st1 := [.ref 0, .ref 2]) rfl rfl rfl ?_
  refine w_mv (pc1 := 480) (st1 := [.int 0, .ref 0, .ref 2]) rfl rfl rfl ?_
  refine w_mv (pc1 := 481) (st1 := [.int 1, .int 0, .ref 0, .ref 2]) rfl rfl rfl ?_
  refine w_mv (pc1 := 482) (st1 := [.int 1, .ref 0, .ref 2]) rfl rfl rfl ?_
  refine w_mv (pc1 := 483) (st1 := [.int (xs 1), .ref 2]) rfl rfl rfl ?_
  refine w_top h ?_
  refine w_call (M' := sM_7) (vals := [.ref 2, .int 5]) (rest := []) (lv' := [(0, .ref 2), (1, .int 5)]) rfl rfl rfl rfl rfl rfl rfl rfl rfl rfl ?_
  refine w_mv (pc1 := 1) (st1 := [.int 5]) rfl rfl rfl ?_
  refine w_mv (pc1 := 89) (st1 := []) rfl rfl rfl ?_
  refine w_mv (pc1 := 90) (st1 := [.ref 2]) rfl rfl rfl ?_
  refine w_mv (pc1 := 93) (st1 := [.ref 6]) rfl rfl rfl ?_
  refine w_call (M' := sM_12) (vals := [.ref 6]) (rest := []) (lv' := [(0, .ref 6)]) rfl rfl rfl rfl rfl rfl rfl rfl rfl rfl ?_
  refine w_mv (pc1 := 1) (st1 := [.ref 6]) rfl rfl rfl ?_
  refine w_mv (pc1 := 4) (st1 := [.ref 15]) rfl rfl rfl ?_
  refine w_call (M' := sM_11) (vals := [.ref 15]) (rest := []) (lv' := [(0, .ref 15)]) rfl rfl rfl rfl rfl rfl rfl rfl rfl rfl ?_
  refine w_mv (pc1 := 1) (st1 := [.ref 15]) rfl rfl rfl ?_
  refine w_mv (pc1 := 4) (st1 := [.int 0]) rfl rfl rfl ?_
  refine w_iret (pc1 := 7) rfl rfl rfl rfl ?_
  refine w_iret (pc1 := 96) rfl rfl rfl rfl ?_
  refine w_iret (pc1 := 486) rfl rfl rfl rfl ?_
  refine w_mv (pc1 := 487) (st1 := [.ref 30, .int 0]) rfl rfl rfl ?_
  refine w_mv (pc1 := 488) (st1 := [.ref 0, .ref 30, .int 0]) rfl rfl rfl ?_
  refine w_mv (pc1 := 490) (st1 := [.int 0, .ref 0, .ref 30, .int 0]) rfl rfl rfl ?_
  refine w_mv (pc1 := 491) (st1 := [.int 1, .int 0, .ref 0, .ref 30, .int 0]) rfl rfl rfl ?_
  refine w_mv (pc1 := 492) (st1 := [.int 1, .ref 0, .ref 30, .int 0]) rfl rfl rfl ?_
  refine w_mv (pc1 := 493) (st1 := [.int (xs 1), .ref 30, .int 0]) rfl rfl rfl ?_
  refine w_top h ?_
  refine w_call (M' := sM_159) (vals := [.ref 30, .int 5]) (rest := [.int 0]) (lv' := [(0, .ref 30), (1, .int 5)]) rfl rfl rfl rfl rfl rfl rfl rfl rfl rfl ?_
  refine w_mv (pc1 := 1) (st1 := [.ref 30]) rfl rfl rfl ?_
  refine w_mv (pc1 := 2) (st1 := [.int 0, .ref 30]) rfl rfl rfl ?_
  refine w_st (pc1 := 5) (st1 := []) (hs1 := sH_121 3 xs) (dc1 := 0) (ds1 := 0) (dc2 := 60) (ds2 := 146541) rfl rfl rfl rfl rfl ?_
  refine w_mv (pc1 := 6) (st1 := [.int 5]) rfl rfl rfl ?_
  refine w_mv (pc1 := 14) (st1 := []) rfl rfl rfl ?_
  refine w_mv (pc1 := 15) (st1 := [.int 5]) rfl rfl rfl ?_
  refine w_mv (pc1 := 16) (st1 := [.int 1, .int 5]) rfl rfl rfl ?_
  refine w_mv (pc1 := 24) (st1 := []) rfl rfl rfl ?_
  refine w_mv (pc1 := 25) (st1 := [.int 5]) rfl rfl rfl ?_
  refine w_mv (pc1 := 26) (st1 := [.int 2, .int 5]) rfl rfl rfl ?_
  refine w_mv (pc1 := 34) (st1 := []) rfl rfl rfl ?_
  refine w_mv (pc1 := 35) (st1 := [.int 5]) rfl rfl rfl ?_
  refine w_mv (pc1 := 36) (st1 := [.int 3, .int 5]) rfl rfl rfl ?_
  refine w_mv (pc1 := 38) (st1 := [.int 8, .int 3, .int 5]) rfl rfl rfl ?_
  refine w_call (M' := sM_111) (vals := [.int 5, .int 3, .int 8]) (rest := []) (lv' := [(0, .int 5), (1, .int 3), (2, .int 8)]) rfl rfl rfl rfl rfl rfl rfl rfl rfl rfl ?_
  refine w_mv (pc1 := 1) (st1 := [.int 5]) rfl rfl rfl ?_
  refine w_mv (pc1 := 2) (st1 := [.int 3, .int 5]) rfl rfl rfl ?_
  refine w_mv (pc1 := 5) (st1 := []) rfl rfl rfl ?_
  refine w_mv (pc1 := 6) (st1 := [.int 5]) rfl rfl rfl ?_
  refine w_mv (pc1 := 7) (st1 := [.int 8, .int 5]) rfl rfl rfl ?_
  refine w_mv (pc1 := 10) (st1 := []) rfl rfl rfl ?_
  refine w_mv (pc1 := 11) (st1 := [.int 1]) rfl rfl rfl ?_
  refine w_mv (pc1 := 15) (st1 := [.int 1]) rfl rfl rfl ?_
  refine w_iret (pc1 := 41) rfl rfl rfl rfl ?_
  refine w_mv (pc1 := 57) (st1 := []) rfl rfl rfl ?_
  refine w_mv (pc1 := 58) (st1 := [.ref 30]) rfl rfl rfl ?_
  refine w_mv (pc1 := 61) (st1 := [.int 0]) rfl rfl rfl ?_
  refine w_mv (pc1 := 64) (st1 := []) rfl rfl rfl ?_
  refine w_mv (pc1 := 65) (st1 := [.int 0]) rfl rfl rfl ?_
  refine w_iret (pc1 := 496) rfl rfl rfl rfl ?_
  refine w_mv (pc1 := 501) (st1 := []) rfl rfl rfl ?_
  refine w_mv (pc1 := 504) (lv1 := [(4, .int 3), (3, .ref 61), (2, .ref 30), (1, .ref 2), (0, .ref 0)]) (st1 := []) rfl rfl rfl ?_
  refine w_mv (pc1 := 23) (st1 := []) rfl rfl rfl ?_
  refine w_mv (pc1 := 25) (st1 := [.int 3]) rfl rfl rfl ?_
  refine w_mv (pc1 := 26) (st1 := [.ref 0, .int 3]) rfl rfl rfl ?_
  refine w_mv (pc1 := 27) (st1 := [.int 3, .int 3]) rfl rfl rfl ?_
  refine w_mv (pc1 := 28) (st1 := [.int 3, .int 3, .int 3]) rfl rfl rfl ?_
  refine w_mv (pc1 := 29) (st1 := [.int 0, .int 3]) rfl rfl rfl ?_
  refine w_mv (pc1 := 507) (st1 := []) rfl rfl rfl ?_
  refine w_mv (pc1 := 508) (st1 := [.int 1]) rfl rfl rfl ?_
  exact sx_wp.stop rfl rfl rfl ⟨rfl, by decide, by decide⟩
set_option maxRecDepth 20000 in
set_option maxHeartbeats 4000000 in
theorem s_k_count6 (xs : Nat → Int32) (h : xs 1 = 6) : s_wp 20 sM_law 476 [(4, .int 0), (3, .ref 61), (2, .ref 30), (1, .ref 2), (0, .ref 0)] [] (sH_121 3 xs) 60 146541 s_fin := by
  refine w_mv (pc1 := 477) (st1 := [.ref 2]) rfl rfl rfl ?_
  refine w_mv (pc1 := 478) (st1 := [.ref 0, .ref 2]) rfl rfl rfl ?_
  refine w_mv (pc1 := 480) (st1 := [.int 0, .ref 0, .ref 2]) rfl rfl rfl ?_
  refine w_mv (pc1 := 481) (st1 := [.int 1, .int 0, .ref 0, .ref 2]) rfl rfl rfl ?_
  refine w_mv (pc1 := 482) (st1 := [.int 1, .ref 0, .ref 2]) rfl rfl rfl ?_
  refine w_mv (pc1 := 483) (st1 := [.int (xs 1), .ref 2]) rfl rfl rfl ?_
  refine w_top h ?_
  refine w_call (M' := sM_7) (vals := [.ref 2, .int 6]) (rest := []) (lv' := [(0, .ref 2), (1, .int 6)]) rfl rfl rfl rfl rfl rfl rfl rfl rfl rfl ?_
  refine w_mv (pc1 := 1) (st1 := [.int 6]) rfl rfl rfl ?_
  refine w_mv (pc1 := 97) (st1 := []) rfl rfl rfl ?_
  refine w_mv (pc1 := 98) (st1 := [.ref 2]) rfl rfl rfl ?_
  refine w_mv (pc1 := 101) (st1 := [.ref 6]) rfl rfl rfl ?_
  refine w_call (M' := sM_13) (vals := [.ref 6]) (rest := []) (lv' := [(0, .ref 6)]) rfl rfl rfl rfl rfl rfl rfl rfl rfl rfl ?_
  refine w_mv (pc1 := 1) (st1 := [.ref 6]) rfl rfl rfl ?_
  refine w_mv (pc1 := 4) (st1 := [.ref 7]) rfl rfl rfl ?_
  refine w_mv (pc1 := 7) (st1 := [.ref 8]) rfl rfl rfl ?_
  refine w_call (M' := sM_14) (vals := [.ref 8]) (rest := []) (lv' := [(0, .ref 8)]) rfl rfl rfl rfl rfl rfl rfl rfl rfl rfl ?_
  refine w_mv (pc1 := 1) (st1 := [.ref 8]) rfl rfl rfl ?_
  refine w_mv (pc1 := 4) (st1 := [.int 0]) rfl rfl rfl ?_
  refine w_iret (pc1 := 10) rfl rfl rfl rfl ?_
  refine w_iret (pc1 := 104) rfl rfl rfl rfl ?_
  refine w_iret (pc1 := 486) rfl rfl rfl rfl ?_
  refine w_mv (pc1 := 487) (st1 := [.ref 30, .int 0]) rfl rfl rfl ?_
  refine w_mv (pc1 := 488) (st1 := [.ref 0, .ref 30, .int 0]) rfl rfl rfl ?_
  refine w_mv (pc1 := 490) (st1 := [.int 0, .ref 0, .ref 30, .int 0]) rfl rfl rfl ?_
  refine w_mv (pc1 := 491) (st1 := [.int 1, .int 0, .ref 0, .ref 30, .int 0]) rfl rfl rfl ?_
  refine w_mv (pc1 := 492) (st1 := [.int 1, .ref 0, .ref 30, .int 0]) rfl rfl rfl ?_
  refine w_mv (pc1 := 493) (st1 := [.int (xs 1), .ref 30, .int 0]) rfl rfl rfl ?_
  refine w_top h ?_
  refine w_call (M' := sM_159) (vals := [.ref 30, .int 6]) (rest := [.int 0]) (lv' := [(0, .ref 30), (1, .int 6)]) rfl rfl rfl rfl rfl rfl rfl rfl rfl rfl ?_
  refine w_mv (pc1 := 1) (st1 := [.ref 30]) rfl rfl rfl ?_
  refine w_mv (pc1 := 2) (st1 := [.int 0, .ref 30]) rfl rfl rfl ?_
  refine w_st (pc1 := 5) (st1 := []) (hs1 := sH_121 3 xs) (dc1 := 0) (ds1 := 0) (dc2 := 60) (ds2 := 146541) rfl rfl rfl rfl rfl ?_
  refine w_mv (pc1 := 6) (st1 := [.int 6]) rfl rfl rfl ?_
  refine w_mv (pc1 := 14) (st1 := []) rfl rfl rfl ?_
  refine w_mv (pc1 := 15) (st1 := [.int 6]) rfl rfl rfl ?_
  refine w_mv (pc1 := 16) (st1 := [.int 1, .int 6]) rfl rfl rfl ?_
  refine w_mv (pc1 := 24) (st1 := []) rfl rfl rfl ?_
  refine w_mv (pc1 := 25) (st1 := [.int 6]) rfl rfl rfl ?_
  refine w_mv (pc1 := 26) (st1 := [.int 2, .int 6]) rfl rfl rfl ?_
  refine w_mv (pc1 := 34) (st1 := []) rfl rfl rfl ?_
  refine w_mv (pc1 := 35) (st1 := [.int 6]) rfl rfl rfl ?_
  refine w_mv (pc1 := 36) (st1 := [.int 3, .int 6]) rfl rfl rfl ?_
  refine w_mv (pc1 := 38) (st1 := [.int 8, .int 3, .int 6]) rfl rfl rfl ?_
  refine w_call (M' := sM_111) (vals := [.int 6, .int 3, .int 8]) (rest := []) (lv' := [(0, .int 6), (1, .int 3), (2, .int 8)]) rfl rfl rfl rfl rfl rfl rfl rfl rfl rfl ?_
  refine w_mv (pc1 := 1) (st1 := [.int 6]) rfl rfl rfl ?_
  refine w_mv (pc1 := 2) (st1 := [.int 3, .int 6]) rfl rfl rfl ?_
  refine w_mv (pc1 := 5) (st1 := []) rfl rfl rfl ?_
  refine w_mv (pc1 := 6) (st1 := [.int 6]) rfl rfl rfl ?_
  refine w_mv (pc1 := 7) (st1 := [.int 8, .int 6]) rfl rfl rfl ?_
  refine w_mv (pc1 := 10) (st1 := []) rfl rfl rfl ?_
  refine w_mv (pc1 := 11) (st1 := [.int 1]) rfl rfl rfl ?_
  refine w_mv (pc1 := 15) (st1 := [.int 1]) rfl rfl rfl ?_
  refine w_iret (pc1 := 41) rfl rfl rfl rfl ?_
  refine w_mv (pc1 := 57) (st1 := []) rfl rfl rfl ?_
  refine w_mv (pc1 := 58) (st1 := [.ref 30]) rfl rfl rfl ?_
  refine w_mv (pc1 := 61) (st1 := [.int 0]) rfl rfl rfl ?_
  refine w_mv (pc1 := 64) (st1 := []) rfl rfl rfl ?_
  refine w_mv (pc1 := 65) (st1 := [.int 0]) rfl rfl rfl ?_
  refine w_iret (pc1 := 496) rfl rfl rfl rfl ?_
  refine w_mv (pc1 := 501) (st1 := []) rfl rfl rfl ?_
  refine w_mv (pc1 := 504) (lv1 := [(4, .int 3), (3, .ref 61), (2, .ref 30), (1, .ref 2), (0, .ref 0)]) (st1 := []) rfl rfl rfl ?_
  refine w_mv (pc1 := 23) (st1 := []) rfl rfl rfl ?_
  refine w_mv (pc1 := 25) (st1 := [.int 3]) rfl rfl rfl ?_
  refine w_mv (pc1 := 26) (st1 := [.ref 0, .int 3]) rfl rfl rfl ?_
  refine w_mv (pc1 := 27) (st1 := [.int 3, .int 3]) rfl rfl rfl ?_
  refine w_mv (pc1 := 28) (st1 := [.int 3, .int 3, .int 3]) rfl rfl rfl ?_
  refine w_mv (pc1 := 29) (st1 := [.int 0, .int 3]) rfl rfl rfl ?_
  refine w_mv (pc1 := 507) (st1 := []) rfl rfl rfl ?_
  refine w_mv (pc1 := 508) (st1 := [.int 1]) rfl rfl rfl ?_
  exact sx_wp.stop rfl rfl rfl ⟨rfl, by decide, by decide⟩
set_option maxRecDepth 20000 in
set_option maxHeartbeats 4000000 in
theorem s_k_count7 (xs : Nat → Int32) (h : xs 1 = 7) : s_wp 20 sM_law 476 [(4, .int 0), (3, .ref 61), (2, .ref 30), (1, .ref 2), (0, .ref 0)] [] (sH_121 3 xs) 60 146541 s_fin := by
  refine w_mv (pc1 := 477) (st1 := [.ref 2]) rfl rfl rfl ?_
  refine w_mv (pc1 := 478) (st1 := [.ref 0, .ref 2]) rfl rfl rfl ?_
  refine w_mv (pc1 := 480) (st1 := [.int 0, .ref 0, .ref 2]) rfl rfl rfl ?_
  refine w_mv (pc1 := 481) (st1 := [.int 1, .int 0, .ref 0, .ref 2]) rfl rfl rfl ?_
  refine w_mv (pc1 := 482) (st1 := [.int 1, .ref 0, .ref 2]) rfl rfl rfl ?_
  refine w_mv (pc1 := 483) (st1 := [.int (xs 1), .ref 2]) rfl rfl rfl ?_
  refine w_top h ?_
  refine w_call (M' := sM_7) (vals := [.ref 2, .int 7]) (rest := []) (lv' := [(0, .ref 2), (1, .int 7)]) rfl rfl rfl rfl rfl rfl rfl rfl rfl rfl ?_
  refine w_mv (pc1 := 1) (st1 := [.int 7]) rfl rfl rfl ?_
  refine w_mv (pc1 := 105) (st1 := []) rfl rfl rfl ?_
  refine w_mv (pc1 := 106) (st1 := [.ref 2]) rfl rfl rfl ?_
  refine w_mv (pc1 := 109) (st1 := [.ref 6]) rfl rfl rfl ?_
  refine w_call (M' := sM_15) (vals := [.ref 6]) (rest := []) (lv' := [(0, .ref 6)]) rfl rfl rfl rfl rfl rfl rfl rfl rfl rfl ?_
  refine w_mv (pc1 := 1) (st1 := [.ref 6]) rfl rfl rfl ?_
  refine w_mv (pc1 := 4) (st1 := [.int 0]) rfl rfl rfl ?_
  refine w_iret (pc1 := 112) rfl rfl rfl rfl ?_
  refine w_iret (pc1 := 486) rfl rfl rfl rfl ?_
  refine w_mv (pc1 := 487) (st1 := [.ref 30, .int 0]) rfl rfl rfl ?_
  refine w_mv (pc1 := 488) (st1 := [.ref 0, .ref 30, .int 0]) rfl rfl rfl ?_
  refine w_mv (pc1 := 490) (st1 := [.int 0, .ref 0, .ref 30, .int 0]) rfl rfl rfl ?_
  refine w_mv (pc1 := 491) (st1 := [.int 1, .int 0, .ref 0, .ref 30, .int 0]) rfl rfl rfl ?_
  refine w_mv (pc1 := 492) (st1 := [.int 1, .ref 0, .ref 30, .int 0]) rfl rfl rfl ?_
  refine w_mv (pc1 := 493) (st1 := [.int (xs 1), .ref 30, .int 0]) rfl rfl rfl ?_
  refine w_top h ?_
  refine w_call (M' := sM_159) (vals := [.ref 30, .int 7]) (rest := [.int 0]) (lv' := [(0, .ref 30), (1, .int 7)]) rfl rfl rfl rfl rfl rfl rfl rfl rfl rfl ?_
  refine w_mv (pc1 := 1) (st1 := [.ref 30]) rfl rfl rfl ?_
  refine w_mv (pc1 := 2) (st1 := [.int 0, .ref 30]) rfl rfl rfl ?_
  refine w_st (pc1 := 5) (st1 := []) (hs1 := sH_121 3 xs) (dc1 := 0) (ds1 := 0) (dc2 := 60) (ds2 := 146541) rfl rfl rfl rfl rfl ?_
  refine w_mv (pc1 := 6) (st1 := [.int 7]) rfl rfl rfl ?_
  refine w_mv (pc1 := 14) (st1 := []) rfl rfl rfl ?_
  refine w_mv (pc1 := 15) (st1 := [.int 7]) rfl rfl rfl ?_
  refine w_mv (pc1 := 16) (st1 := [.int 1, .int 7]) rfl rfl rfl ?_
  refine w_mv (pc1 := 24) (st1 := []) rfl rfl rfl ?_
  refine w_mv (pc1 := 25) (st1 := [.int 7]) rfl rfl rfl ?_
  refine w_mv (pc1 := 26) (st1 := [.int 2, .int 7]) rfl rfl rfl ?_
  refine w_mv (pc1 := 34) (st1 := []) rfl rfl rfl ?_
  refine w_mv (pc1 := 35) (st1 := [.int 7]) rfl rfl rfl ?_
  refine w_mv (pc1 := 36) (st1 := [.int 3, .int 7]) rfl rfl rfl ?_
  refine w_mv (pc1 := 38) (st1 := [.int 8, .int 3, .int 7]) rfl rfl rfl ?_
  refine w_call (M' := sM_111) (vals := [.int 7, .int 3, .int 8]) (rest := []) (lv' := [(0, .int 7), (1, .int 3), (2, .int 8)]) rfl rfl rfl rfl rfl rfl rfl rfl rfl rfl ?_
  refine w_mv (pc1 := 1) (st1 := [.int 7]) rfl rfl rfl ?_
  refine w_mv (pc1 := 2) (st1 := [.int 3, .int 7]) rfl rfl rfl ?_
  refine w_mv (pc1 := 5) (st1 := []) rfl rfl rfl ?_
  refine w_mv (pc1 := 6) (st1 := [.int 7]) rfl rfl rfl ?_
  refine w_mv (pc1 := 7) (st1 := [.int 8, .int 7]) rfl rfl rfl ?_
  refine w_mv (pc1 := 10) (st1 := []) rfl rfl rfl ?_
  refine w_mv (pc1 := 11) (st1 := [.int 1]) rfl rfl rfl ?_
  refine w_mv (pc1 := 15) (st1 := [.int 1]) rfl rfl rfl ?_
  refine w_iret (pc1 := 41) rfl rfl rfl rfl ?_
  refine w_mv (pc1 := 57) (st1 := []) rfl rfl rfl ?_
  refine w_mv (pc1 := 58) (st1 := [.ref 30]) rfl rfl rfl ?_
  refine w_mv (pc1 := 61) (st1 := [.int 0]) rfl rfl rfl ?_
  refine w_mv (pc1 := 64) (st1 := []) rfl rfl rfl ?_
  refine w_mv (pc1 := 65) (st1 := [.int 0]) rfl rfl rfl ?_
  refine w_iret (pc1 := 496) rfl rfl rfl rfl ?_
  refine w_mv (pc1 := 501) (st1 := []) rfl rfl rfl ?_
  refine w_mv (pc1 := 504) (lv1 := [(4, .int 3), (3, .ref 61), (2, .ref 30), (1, .ref 2), (0, .ref 0)]) (st1 := []) rfl rfl rfl ?_
  refine w_mv (pc1 := 23) (st1 := []) rfl rfl rfl ?_
  refine w_mv (pc1 := 25) (st1 := [.int 3]) rfl rfl rfl ?_
  refine w_mv (pc1 := 26) (st1 := [.ref 0, .int 3]) rfl rfl rfl ?_
  refine w_mv (pc1 := 27) (st1 := [.int 3, .int 3]) rfl rfl rfl ?_
  refine w_mv (pc1 := 28) (st1 := [.int 3, .int 3, .int 3]) rfl rfl rfl ?_
  refine w_mv (pc1 := 29) (st1 := [.int 0, .int 3]) rfl rfl rfl ?_
  refine w_mv (pc1 := 507) (st1 := []) rfl rfl rfl ?_
  refine w_mv (pc1 := 508) (st1 := [.int 1]) rfl rfl rfl ?_
  exact sx_wp.stop rfl rfl rfl ⟨rfl, by decide, by decide⟩
set_option maxRecDepth 20000 in
set_option maxHeartbeats 4000000 in
theorem s_k_count8 (xs : Nat → Int32) (h : xs 1 = 8) : s_wp 20 sM_law 476 [(4, .int 0), (3, .ref 61), (2, .ref 30), (1, .ref 2), (0, .ref 0)] [] (sH_121 3 xs) 60 146541 s_fin := by
  refine w_mv (pc1 := 477) (st1 := [.ref 2]) rfl rfl rfl ?_
  refine w_mv (pc1 := 478) (st1 := [.ref 0, .ref 2]) rfl rfl rfl ?_
  refine w_mv (pc1 := 480) (st1 := [.int 0, .ref 0, .ref 2]) rfl rfl rfl ?_
  refine w_mv (pc1 := 481) (st1 := [.int 1, .int 0, .ref 0, .ref 2]) rfl rfl rfl ?_
  refine w_mv (pc1 := 482) (st1 := [.int 1, .ref 0, .ref 2]) rfl rfl rfl ?_
  refine w_mv (pc1 := 483) (st1 := [.int (xs 1), .ref 2]) rfl rfl rfl ?_
  refine w_top h ?_
  refine w_call (M' := sM_7) (vals := [.ref 2, .int 8]) (rest := []) (lv' := [(0, .ref 2), (1, .int 8)]) rfl rfl rfl rfl rfl rfl rfl rfl rfl rfl ?_
  refine w_mv (pc1 := 1) (st1 := [.int 8]) rfl rfl rfl ?_
  refine w_mv (pc1 := 113) (st1 := []) rfl rfl rfl ?_
  refine w_mv (pc1 := 114) (st1 := [.ref 2]) rfl rfl rfl ?_
  refine w_mv (pc1 := 117) (st1 := [.ref 6]) rfl rfl rfl ?_
  refine w_call (M' := sM_16) (vals := [.ref 6]) (rest := []) (lv' := [(0, .ref 6)]) rfl rfl rfl rfl rfl rfl rfl rfl rfl rfl ?_
  refine w_mv (pc1 := 1) (st1 := [.ref 6]) rfl rfl rfl ?_
  refine w_mv (pc1 := 4) (st1 := [.int 0]) rfl rfl rfl ?_
  refine w_iret (pc1 := 120) rfl rfl rfl rfl ?_
  refine w_iret (pc1 := 486) rfl rfl rfl rfl ?_
  refine w_mv (pc1 := 487) (st1 := [.ref 30, .int 0]) rfl rfl rfl ?_
  refine w_mv (pc1 := 488) (st1 := [.ref 0, .ref 30, .int 0]) rfl rfl rfl ?_
  refine w_mv (pc1 := 490) (st1 := [.int 0, .ref 0, .ref 30, .int 0]) rfl rfl rfl ?_
  refine w_mv (pc1 := 491) (st1 := [.int 1, .int 0, .ref 0, .ref 30, .int 0]) rfl rfl rfl ?_
  refine w_mv (pc1 := 492) (st1 := [.int 1, .ref 0, .ref 30, .int 0]) rfl rfl rfl ?_
  refine w_mv (pc1 := 493) (st1 := [.int (xs 1), .ref 30, .int 0]) rfl rfl rfl ?_
  refine w_top h ?_
  refine w_call (M' := sM_159) (vals := [.ref 30, .int 8]) (rest := [.int 0]) (lv' := [(0, .ref 30), (1, .int 8)]) rfl rfl rfl rfl rfl rfl rfl rfl rfl rfl ?_
  refine w_mv (pc1 := 1) (st1 := [.ref 30]) rfl rfl rfl ?_
  refine w_mv (pc1 := 2) (st1 := [.int 0, .ref 30]) rfl rfl rfl ?_
  refine w_st (pc1 := 5) (st1 := []) (hs1 := sH_121 3 xs) (dc1 := 0) (ds1 := 0) (dc2 := 60) (ds2 := 146541) rfl rfl rfl rfl rfl ?_
  refine w_mv (pc1 := 6) (st1 := [.int 8]) rfl rfl rfl ?_
  refine w_mv (pc1 := 14) (st1 := []) rfl rfl rfl ?_
  refine w_mv (pc1 := 15) (st1 := [.int 8]) rfl rfl rfl ?_
  refine w_mv (pc1 := 16) (st1 := [.int 1, .int 8]) rfl rfl rfl ?_
  refine w_mv (pc1 := 24) (st1 := []) rfl rfl rfl ?_
  refine w_mv (pc1 := 25) (st1 := [.int 8]) rfl rfl rfl ?_
  refine w_mv (pc1 := 26) (st1 := [.int 2, .int 8]) rfl rfl rfl ?_
  refine w_mv (pc1 := 34) (st1 := []) rfl rfl rfl ?_
  refine w_mv (pc1 := 35) (st1 := [.int 8]) rfl rfl rfl ?_
  refine w_mv (pc1 := 36) (st1 := [.int 3, .int 8]) rfl rfl rfl ?_
  refine w_mv (pc1 := 38) (st1 := [.int 8, .int 3, .int 8]) rfl rfl rfl ?_
  refine w_call (M' := sM_111) (vals := [.int 8, .int 3, .int 8]) (rest := []) (lv' := [(0, .int 8), (1, .int 3), (2, .int 8)]) rfl rfl rfl rfl rfl rfl rfl rfl rfl rfl ?_
  refine w_mv (pc1 := 1) (st1 := [.int 8]) rfl rfl rfl ?_
  refine w_mv (pc1 := 2) (st1 := [.int 3, .int 8]) rfl rfl rfl ?_
  refine w_mv (pc1 := 5) (st1 := []) rfl rfl rfl ?_
  refine w_mv (pc1 := 6) (st1 := [.int 8]) rfl rfl rfl ?_
  refine w_mv (pc1 := 7) (st1 := [.int 8, .int 8]) rfl rfl rfl ?_
  refine w_mv (pc1 := 10) (st1 := []) rfl rfl rfl ?_
  refine w_mv (pc1 := 11) (st1 := [.int 1]) rfl rfl rfl ?_
  refine w_mv (pc1 := 15) (st1 := [.int 1]) rfl rfl rfl ?_
  refine w_iret (pc1 := 41) rfl rfl rfl rfl ?_
  refine w_mv (pc1 := 57) (st1 := []) rfl rfl rfl ?_
  refine w_mv (pc1 := 58) (st1 := [.ref 30]) rfl rfl rfl ?_
  refine w_mv (pc1 := 61) (st1 := [.int 0]) rfl rfl rfl ?_
  refine w_mv (pc1 := 64) (st1 := []) rfl rfl rfl ?_
  refine w_mv (pc1 := 65) (st1 := [.int 0]) rfl rfl rfl ?_
  refine w_iret (pc1 := 496) rfl rfl rfl rfl ?_
  refine w_mv (pc1 := 501) (st1 := []) rfl rfl rfl ?_
  refine w_mv (pc1 := 504) (lv1 := [(4, .int 3), (3, .ref 61), (2, .ref 30), (1, .ref 2), (0, .ref 0)]) (st1 := []) rfl rfl rfl ?_
  refine w_mv (pc1 := 23) (st1 := []) rfl rfl rfl ?_
  refine w_mv (pc1 := 25) (st1 := [.int 3]) rfl rfl rfl ?_
  refine w_mv (pc1 := 26) (st1 := [.ref 0, .int 3]) rfl rfl rfl ?_
  refine w_mv (pc1 := 27) (st1 := [.int 3, .int 3]) rfl rfl rfl ?_
  refine w_mv (pc1 := 28) (st1 := [.int 3, .int 3, .int 3]) rfl rfl rfl ?_
  refine w_mv (pc1 := 29) (st1 := [.int 0, .int 3]) rfl rfl rfl ?_
  refine w_mv (pc1 := 507) (st1 := []) rfl rfl rfl ?_
  refine w_mv (pc1 := 508) (st1 := [.int 1]) rfl rfl rfl ?_
  exact sx_wp.stop rfl rfl rfl ⟨rfl, by decide, by decide⟩
set_option maxRecDepth 20000 in
set_option maxHeartbeats 4000000 in
theorem s_k_count9 (xs : Nat → Int32) (h : xs 1 = 9) : s_wp 20 sM_law 476 [(4, .int 0), (3, .ref 61), (2, .ref 30), (1, .ref 2), (0, .ref 0)] [] (sH_121 3 xs) 60 146541 s_fin := by
  refine w_mv (pc1 := 477) (st1 := [.ref 2]) rfl rfl rfl ?_
  refine w_mv (pc1 := 478) (st1 := [.ref 0, .ref 2]) rfl rfl rfl ?_
  refine w_mv (pc1 := 480) (st1 := [.int 0, .ref 0, .ref 2]) rfl rfl rfl ?_
  refine w_mv (pc1 := 481) (st1 := [.int 1, .int 0, .ref 0, .ref 2]) rfl rfl rfl ?_
  refine w_mv (pc1 := 482) (st1 := [.int 1, .ref 0, .ref 2]) rfl rfl rfl ?_
  refine w_mv (pc1 := 483) (st1 := [.int (xs 1), .ref 2]) rfl rfl rfl ?_
  refine w_top h ?_
  refine w_call (M' := sM_7) (vals := [.ref 2, .int 9]) (rest := []) (lv' := [(0, .ref 2), (1, .int 9)]) rfl rfl rfl rfl rfl rfl rfl rfl rfl rfl ?_
  refine w_mv (pc1 := 1) (st1 := [.int 9]) rfl rfl rfl ?_
  refine w_mv (pc1 := 121) (st1 := []) rfl rfl rfl ?_
  refine w_mv (pc1 := 122) (st1 := [.int 9]) rfl rfl rfl ?_
  refine w_mv (pc1 := 124) (st1 := [.int 10, .int 9]) rfl rfl rfl ?_
  refine w_mv (pc1 := 147) (st1 := []) rfl rfl rfl ?_
  refine w_mv (pc1 := 148) (st1 := [.int (-1)]) rfl rfl rfl ?_
  refine w_iret (pc1 := 486) rfl rfl rfl rfl ?_
  refine w_mv (pc1 := 487) (st1 := [.ref 30, .int (-1)]) rfl rfl rfl ?_
  refine w_mv (pc1 := 488) (st1 := [.ref 0, .ref 30, .int (-1)]) rfl rfl rfl ?_
  refine w_mv (pc1 := 490) (st1 := [.int 0, .ref 0, .ref 30, .int (-1)]) rfl rfl rfl ?_
  refine w_mv (pc1 := 491) (st1 := [.int 1, .int 0, .ref 0, .ref 30, .int (-1)]) rfl rfl rfl ?_
  refine w_mv (pc1 := 492) (st1 := [.int 1, .ref 0, .ref 30, .int (-1)]) rfl rfl rfl ?_
  refine w_mv (pc1 := 493) (st1 := [.int (xs 1), .ref 30, .int (-1)]) rfl rfl rfl ?_
  refine w_top h ?_
  refine w_call (M' := sM_159) (vals := [.ref 30, .int 9]) (rest := [.int (-1)]) (lv' := [(0, .ref 30), (1, .int 9)]) rfl rfl rfl rfl rfl rfl rfl rfl rfl rfl ?_
  refine w_mv (pc1 := 1) (st1 := [.ref 30]) rfl rfl rfl ?_
  refine w_mv (pc1 := 2) (st1 := [.int 0, .ref 30]) rfl rfl rfl ?_
  refine w_st (pc1 := 5) (st1 := []) (hs1 := sH_121 3 xs) (dc1 := 0) (ds1 := 0) (dc2 := 60) (ds2 := 146541) rfl rfl rfl rfl rfl ?_
  refine w_mv (pc1 := 6) (st1 := [.int 9]) rfl rfl rfl ?_
  refine w_mv (pc1 := 14) (st1 := []) rfl rfl rfl ?_
  refine w_mv (pc1 := 15) (st1 := [.int 9]) rfl rfl rfl ?_
  refine w_mv (pc1 := 16) (st1 := [.int 1, .int 9]) rfl rfl rfl ?_
  refine w_mv (pc1 := 24) (st1 := []) rfl rfl rfl ?_
  refine w_mv (pc1 := 25) (st1 := [.int 9]) rfl rfl rfl ?_
  refine w_mv (pc1 := 26) (st1 := [.int 2, .int 9]) rfl rfl rfl ?_
  refine w_mv (pc1 := 34) (st1 := []) rfl rfl rfl ?_
  refine w_mv (pc1 := 35) (st1 := [.int 9]) rfl rfl rfl ?_
  refine w_mv (pc1 := 36) (st1 := [.int 3, .int 9]) rfl rfl rfl ?_
  refine w_mv (pc1 := 38) (st1 := [.int 8, .int 3, .int 9]) rfl rfl rfl ?_
  refine w_call (M' := sM_111) (vals := [.int 9, .int 3, .int 8]) (rest := []) (lv' := [(0, .int 9), (1, .int 3), (2, .int 8)]) rfl rfl rfl rfl rfl rfl rfl rfl rfl rfl ?_
  refine w_mv (pc1 := 1) (st1 := [.int 9]) rfl rfl rfl ?_
  refine w_mv (pc1 := 2) (st1 := [.int 3, .int 9]) rfl rfl rfl ?_
  refine w_mv (pc1 := 5) (st1 := []) rfl rfl rfl ?_
  refine w_mv (pc1 := 6) (st1 := [.int 9]) rfl rfl rfl ?_
  refine w_mv (pc1 := 7) (st1 := [.int 8, .int 9]) rfl rfl rfl ?_
  refine w_mv (pc1 := 14) (st1 := []) rfl rfl rfl ?_
  refine w_mv (pc1 := 15) (st1 := [.int 0]) rfl rfl rfl ?_
  refine w_iret (pc1 := 41) rfl rfl rfl rfl ?_
  refine w_mv (pc1 := 44) (st1 := []) rfl rfl rfl ?_
  refine w_mv (pc1 := 45) (st1 := [.int 9]) rfl rfl rfl ?_
  refine w_mv (pc1 := 47) (st1 := [.int 10, .int 9]) rfl rfl rfl ?_
  refine w_mv (pc1 := 49) (st1 := [.int 13, .int 10, .int 9]) rfl rfl rfl ?_
  refine w_call (M' := sM_111) (vals := [.int 9, .int 10, .int 13]) (rest := []) (lv' := [(0, .int 9), (1, .int 10), (2, .int 13)]) rfl rfl rfl rfl rfl rfl rfl rfl rfl rfl ?_
  refine w_mv (pc1 := 1) (st1 := [.int 9]) rfl rfl rfl ?_
  refine w_mv (pc1 := 2) (st1 := [.int 10, .int 9]) rfl rfl rfl ?_
  refine w_mv (pc1 := 14) (st1 := []) rfl rfl rfl ?_
  refine w_mv (pc1 := 15) (st1 := [.int 0]) rfl rfl rfl ?_
  refine w_iret (pc1 := 52) rfl rfl rfl rfl ?_
  refine w_mv (pc1 := 55) (st1 := []) rfl rfl rfl ?_
  refine w_mv (pc1 := 56) (st1 := [.int (-1)]) rfl rfl rfl ?_
  refine w_iret (pc1 := 496) rfl rfl rfl rfl ?_
  refine w_mv (pc1 := 501) (st1 := []) rfl rfl rfl ?_
  refine w_mv (pc1 := 504) (lv1 := [(4, .int 3), (3, .ref 61), (2, .ref 30), (1, .ref 2), (0, .ref 0)]) (st1 := []) rfl rfl rfl ?_
  refine w_mv (pc1 := 23) (st1 := []) rfl rfl rfl ?_
  refine w_mv (pc1 := 25) (st1 := [.int 3]) rfl rfl rfl ?_
  refine w_mv (pc1 := 26) (st1 := [.ref 0, .int 3]) rfl rfl rfl ?_
  refine w_mv (pc1 := 27) (st1 := [.int 3, .int 3]) rfl rfl rfl ?_
  refine w_mv (pc1 := 28) (st1 := [.int 3, .int 3, .int 3]) rfl rfl rfl ?_
  refine w_mv (pc1 := 29) (st1 := [.int 0, .int 3]) rfl rfl rfl ?_
  refine w_mv (pc1 := 507) (st1 := []) rfl rfl rfl ?_
  refine w_mv (pc1 := 508) (st1 := [.int 1]) rfl rfl rfl ?_
  exact sx_wp.stop rfl rfl rfl ⟨rfl, by decide, by decide⟩
set_option maxRecDepth 20000 in
set_option maxHeartbeats 4000000 in
theorem s_k_count10 (xs : Nat → Int32) (h : xs 1 = 10) : s_wp 20 sM_law 476 [(4, .int 0), (3, .ref 61), (2, .ref 30), (1, .ref 2), (0, .ref 0)] [] (sH_121 3 xs) 60 146541 s_fin := by
  refine w_mv (pc1 := 477) (st1 := [.ref 2]) rfl rfl rfl ?_
  refine w_mv (pc1 := 478) (st1 := [.ref 0, .ref 2]) rfl rfl rfl ?_
  refine w_mv (pc1 := 480) (st1 := [.int 0, .ref 0, .ref 2]) rfl rfl rfl ?_
  refine w_mv (pc1 := 481) (st1 := [.int 1, .int 0, .ref 0, .ref 2]) rfl rfl rfl ?_
  refine w_mv (pc1 := 482) (st1 := [.int 1, .ref 0, .ref 2]) rfl rfl rfl ?_
  refine w_mv (pc1 := 483) (st1 := [.int (xs 1), .ref 2]) rfl rfl rfl ?_
  refine w_top h ?_
  refine w_call (M' := sM_7) (vals := [.ref 2, .int 10]) (rest := []) (lv' := [(0, .ref 2), (1, .int 10)]) rfl rfl rfl rfl rfl rfl rfl rfl rfl rfl ?_
  refine w_mv (pc1 := 1) (st1 := [.int 10]) rfl rfl rfl ?_
  refine w_mv (pc1 := 121) (st1 := []) rfl rfl rfl ?_
  refine w_mv (pc1 := 122) (st1 := [.int 10]) rfl rfl rfl ?_
  refine w_mv (pc1 := 124) (st1 := [.int 10, .int 10]) rfl rfl rfl ?_
  refine w_mv (pc1 := 127) (st1 := []) rfl rfl rfl ?_
  refine w_mv (pc1 := 128) (st1 := [.int 10]) rfl rfl rfl ?_
  refine w_mv (pc1 := 130) (st1 := [.int 14, .int 10]) rfl rfl rfl ?_
  refine w_mv (pc1 := 133) (st1 := []) rfl rfl rfl ?_
  refine w_mv (pc1 := 134) (st1 := [.ref 2]) rfl rfl rfl ?_
  refine w_mv (pc1 := 137) (st1 := [.ref 6]) rfl rfl rfl ?_
  refine w_mv (pc1 := 138) (st1 := [.int 10, .ref 6]) rfl rfl rfl ?_
  refine w_mv (pc1 := 140) (st1 := [.int 10, .int 10, .ref 6]) rfl rfl rfl ?_
  refine w_mv (pc1 := 141) (st1 := [.int 0, .ref 6]) rfl rfl rfl ?_
  refine w_call (M' := sM_17) (vals := [.ref 6, .int 0]) (rest := []) (lv' := [(0, .ref 6), (1, .int 0)]) rfl rfl rfl rfl rfl rfl rfl rfl rfl rfl ?_
  refine w_mv (pc1 := 1) (st1 := [.int 0]) rfl rfl rfl ?_
  refine w_mv (pc1 := 4) (st1 := []) rfl rfl rfl ?_
  refine w_mv (pc1 := 5) (st1 := [.int 0]) rfl rfl rfl ?_
  refine w_mv (pc1 := 6) (st1 := [.int 4, .int 0]) rfl rfl rfl ?_
  refine w_mv (pc1 := 9) (st1 := []) rfl rfl rfl ?_
  refine w_mv (pc1 := 10) (st1 := [.ref 6]) rfl rfl rfl ?_
  refine w_mv (pc1 := 13) (st1 := [.ref 14]) rfl rfl rfl ?_
  refine w_mv (pc1 := 14) (st1 := [.int 0, .ref 14]) rfl rfl rfl ?_
  refine w_mv (pc1 := 15) (st1 := [.ref 20]) rfl rfl rfl ?_
  refine w_call (M' := sM_11) (vals := [.ref 20]) (rest := []) (lv' := [(0, .ref 20)]) rfl rfl rfl rfl rfl rfl rfl rfl rfl rfl ?_
  refine w_mv (pc1 := 1) (st1 := [.ref 20]) rfl rfl rfl ?_
  refine w_mv (pc1 := 4) (st1 := [.int 0]) rfl rfl rfl ?_
  refine w_iret (pc1 := 18) rfl rfl rfl rfl ?_
  refine w_mv (pc1 := 22) (st1 := [.int 0]) rfl rfl rfl ?_
  refine w_iret (pc1 := 144) rfl rfl rfl rfl ?_
  refine w_mv (pc1 := 148) (st1 := [.int 0]) rfl rfl rfl ?_
  refine w_iret (pc1 := 486) rfl rfl rfl rfl ?_
  refine w_mv (pc1 := 487) (st1 := [.ref 30, .int 0]) rfl rfl rfl ?_
  refine w_mv (pc1 := 488) (st1 := [.ref 0, .ref 30, .int 0]) rfl rfl rfl ?_
  refine w_mv (pc1 := 490) (st1 := [.int 0, .ref 0, .ref 30, .int 0]) rfl rfl rfl ?_
  refine w_mv (pc1 := 491) (st1 := [.int 1, .int 0, .ref 0, .ref 30, .int 0]) rfl rfl rfl ?_
  refine w_mv (pc1 := 492) (st1 := [.int 1, .ref 0, .ref 30, .int 0]) rfl rfl rfl ?_
  refine w_mv (pc1 := 493) (st1 := [.int (xs 1), .ref 30, .int 0]) rfl rfl rfl ?_
  refine w_top h ?_
  refine w_call (M' := sM_159) (vals := [.ref 30, .int 10]) (rest := [.int 0]) (lv' := [(0, .ref 30), (1, .int 10)]) rfl rfl rfl rfl rfl rfl rfl rfl rfl rfl ?_
  refine w_mv (pc1 := 1) (st1 := [.ref 30]) rfl rfl rfl ?_
  refine w_mv (pc1 := 2) (st1 := [.int 0, .ref 30]) rfl rfl rfl ?_
  refine w_st (pc1 := 5) (st1 := []) (hs1 := sH_121 3 xs) (dc1 := 0) (ds1 := 0) (dc2 := 60) (ds2 := 146541) rfl rfl rfl rfl rfl ?_
  refine w_mv (pc1 := 6) (st1 := [.int 10]) rfl rfl rfl ?_
  refine w_mv (pc1 := 14) (st1 := []) rfl rfl rfl ?_
  refine w_mv (pc1 := 15) (st1 := [.int 10]) rfl rfl rfl ?_
  refine w_mv (pc1 := 16) (st1 := [.int 1, .int 10]) rfl rfl rfl ?_
  refine w_mv (pc1 := 24) (st1 := []) rfl rfl rfl ?_
  refine w_mv (pc1 := 25) (st1 := [.int 10]) rfl rfl rfl ?_
  refine w_mv (pc1 := 26) (st1 := [.int 2, .int 10]) rfl rfl rfl ?_
  refine w_mv (pc1 := 34) (st1 := []) rfl rfl rfl ?_
  refine w_mv (pc1 := 35) (st1 := [.int 10]) rfl rfl rfl ?_
  refine w_mv (pc1 := 36) (st1 := [.int 3, .int 10]) rfl rfl rfl ?_
  refine w_mv (pc1 := 38) (st1 := [.int 8, .int 3, .int 10]) rfl rfl rfl ?_
  refine w_call (M' := sM_111) (vals := [.int 10, .int 3, .int 8]) (rest := []) (lv' := [(0, .int 10), (1, .int 3), (2, .int 8)]) rfl rfl rfl rfl rfl rfl rfl rfl rfl rfl ?_
  refine w_mv (pc1 := 1) (st1 := [.int 10]) rfl rfl rfl ?_
  refine w_mv (pc1 := 2) (st1 := [.int 3, .int 10]) rfl rfl rfl ?_
  refine w_mv (pc1 := 5) (st1 := []) rfl rfl rfl ?_
  refine w_mv (pc1 := 6) (st1 := [.int 10]) rfl rfl rfl ?_
  refine w_mv (pc1 := 7) (st1 := [.int 8, .int 10]) rfl rfl rfl ?_
  refine w_mv (pc1 := 14) (st1 := []) rfl rfl rfl ?_
  refine w_mv (pc1 := 15) (st1 := [.int 0]) rfl rfl rfl ?_
  refine w_iret (pc1 := 41) rfl rfl rfl rfl ?_
  refine w_mv (pc1 := 44) (st1 := []) rfl rfl rfl ?_
  refine w_mv (pc1 := 45) (st1 := [.int 10]) rfl rfl rfl ?_
  refine w_mv (pc1 := 47) (st1 := [.int 10, .int 10]) rfl rfl rfl ?_
  refine w_mv (pc1 := 49) (st1 := [.int 13, .int 10, .int 10]) rfl rfl rfl ?_
  refine w_call (M' := sM_111) (vals := [.int 10, .int 10, .int 13]) (rest := []) (lv' := [(0, .int 10), (1, .int 10), (2, .int 13)]) rfl rfl rfl rfl rfl rfl rfl rfl rfl rfl ?_
  refine w_mv (pc1 := 1) (st1 := [.int 10]) rfl rfl rfl ?_
  refine w_mv (pc1 := 2) (st1 := [.int 10, .int 10]) rfl rfl rfl ?_
  refine w_mv (pc1 := 5) (st1 := []) rfl rfl rfl ?_
  refine w_mv (pc1 := 6) (st1 := [.int 10]) rfl rfl rfl ?_
  refine w_mv (pc1 := 7) (st1 := [.int 13, .int 10]) rfl rfl rfl ?_
  refine w_mv (pc1 := 10) (st1 := []) rfl rfl rfl ?_
  refine w_mv (pc1 := 11) (st1 := [.int 1]) rfl rfl rfl ?_
  refine w_mv (pc1 := 15) (st1 := [.int 1]) rfl rfl rfl ?_
  refine w_iret (pc1 := 52) rfl rfl rfl rfl ?_
  refine w_mv (pc1 := 57) (st1 := []) rfl rfl rfl ?_
  refine w_mv (pc1 := 58) (st1 := [.ref 30]) rfl rfl rfl ?_
  refine w_mv (pc1 := 61) (st1 := [.int 0]) rfl rfl rfl ?_
  refine w_mv (pc1 := 64) (st1 := []) rfl rfl rfl ?_
  refine w_mv (pc1 := 65) (st1 := [.int 0]) rfl rfl rfl ?_
  refine w_iret (pc1 := 496) rfl rfl rfl rfl ?_
  refine w_mv (pc1 := 501) (st1 := []) rfl rfl rfl ?_
  refine w_mv (pc1 := 504) (lv1 := [(4, .int 3), (3, .ref 61), (2, .ref 30), (1, .ref 2), (0, .ref 0)]) (st1 := []) rfl rfl rfl ?_
  refine w_mv (pc1 := 23) (st1 := []) rfl rfl rfl ?_
  refine w_mv (pc1 := 25) (st1 := [.int 3]) rfl rfl rfl ?_
  refine w_mv (pc1 := 26) (st1 := [.ref 0, .int 3]) rfl rfl rfl ?_
  refine w_mv (pc1 := 27) (st1 := [.int 3, .int 3]) rfl rfl rfl ?_
  refine w_mv (pc1 := 28) (st1 := [.int 3, .int 3, .int 3]) rfl rfl rfl ?_
  refine w_mv (pc1 := 29) (st1 := [.int 0, .int 3]) rfl rfl rfl ?_
  refine w_mv (pc1 := 507) (st1 := []) rfl rfl rfl ?_
  refine w_mv (pc1 := 508) (st1 := [.int 1]) rfl rfl rfl ?_
  exact sx_wp.stop rfl rfl rfl ⟨rfl, by decide, by decide⟩
set_option maxRecDepth 20000 in
set_option maxHeartbeats 4000000 in
theorem s_k_count11 (xs : Nat → Int32) (h : xs 1 = 11) : s_wp 20 sM_law 476 [(4, .int 0), (3, .ref 61), (2, .ref 30), (1, .ref 2), (0, .ref 0)] [] (sH_121 3 xs) 60 146541 s_fin := by
  refine w_mv (pc1 := 477) (st1 := [.ref 2]) rfl rfl rfl ?_
  refine w_mv (pc1 := 478) (st1 := [.ref 0, .ref 2]) rfl rfl rfl ?_
  refine w_mv (pc1 := 480) (st1 := [.int 0, .ref 0, .ref 2]) rfl rfl rfl ?_
  refine w_mv (pc1 := 481) (st1 := [.int 1, .int 0, .ref 0, .ref 2]) rfl rfl rfl ?_
  refine w_mv (pc1 := 482) (st1 := [.int 1, .ref 0, .ref 2]) rfl rfl rfl ?_
  refine w_mv (pc1 := 483) (st1 := [.int (xs 1), .ref 2]) rfl rfl rfl ?_
  refine w_top h ?_
  refine w_call (M' := sM_7) (vals := [.ref 2, .int 11]) (rest := []) (lv' := [(0, .ref 2), (1, .int 11)]) rfl rfl rfl rfl rfl rfl rfl rfl rfl rfl ?_
  refine w_mv (pc1 := 1) (st1 := [.int 11]) rfl rfl rfl ?_
  refine w_mv (pc1 := 121) (st1 := []) rfl rfl rfl ?_
  refine w_mv (pc1 := 122) (st1 := [.int 11]) rfl rfl rfl ?_
  refine w_mv (pc1 := 124) (st1 := [.int 10, .int 11]) rfl rfl rfl ?_
  refine w_mv (pc1 := 127) (st1 := []) rfl rfl rfl ?_
  refine w_mv (pc1 := 128) (st1 := [.int 11]) rfl rfl rfl ?_
  refine w_mv (pc1 := 130) (st1 := [.int 14, .int 11]) rfl rfl rfl ?_
  refine w_mv (pc1 := 133) (st1 := []) rfl rfl rfl ?_
  refine w_mv (pc1 := 134) (st1 := [.ref 2]) rfl rfl rfl ?_
  refine w_mv (pc1 := 137) (st1 := [.ref 6]) rfl rfl rfl ?_
  refine w_mv (pc1 := 138) (st1 := [.int 11, .ref 6]) rfl rfl rfl ?_
  refine w_mv (pc1 := 140) (st1 := [.int 10, .int 11, .ref 6]) rfl rfl rfl ?_
  refine w_mv (pc1 := 141) (st1 := [.int 1, .ref 6]) rfl rfl rfl ?_
  refine w_call (M' := sM_17) (vals := [.ref 6, .int 1]) (rest := []) (lv' := [(0, .ref 6), (1, .int 1)]) rfl rfl rfl rfl rfl rfl rfl rfl rfl rfl ?_
  refine w_mv (pc1 := 1) (st1 := [.int 1]) rfl rfl rfl ?_
  refine w_mv (pc1 := 4) (st1 := []) rfl rfl rfl ?_
  refine w_mv (pc1 := 5) (st1 := [.int 1]) rfl rfl rfl ?_
  refine w_mv (pc1 := 6) (st1 := [.int 4, .int 1]) rfl rfl rfl ?_
  refine w_mv (pc1 := 9) (st1 := []) rfl rfl rfl ?_
  refine w_mv (pc1 := 10) (st1 := [.ref 6]) rfl rfl rfl ?_
  refine w_mv (pc1 := 13) (st1 := [.ref 14]) rfl rfl rfl ?_
  refine w_mv (pc1 := 14) (st1 := [.int 1, .ref 14]) rfl rfl rfl ?_
  refine w_mv (pc1 := 15) (st1 := [.ref 22]) rfl rfl rfl ?_
  refine w_call (M' := sM_11) (vals := [.ref 22]) (rest := []) (lv' := [(0, .ref 22)]) rfl rfl rfl rfl rfl rfl rfl rfl rfl rfl ?_
  refine w_mv (pc1 := 1) (st1 := [.ref 22]) rfl rfl rfl ?_
  refine w_mv (pc1 := 4) (st1 := [.int 0]) rfl rfl rfl ?_
  refine w_iret (pc1 := 18) rfl rfl rfl rfl ?_
  refine w_mv (pc1 := 22) (st1 := [.int 0]) rfl rfl rfl ?_
  refine w_iret (pc1 := 144) rfl rfl rfl rfl ?_
  refine w_mv (pc1 := 148) (st1 := [.int 0]) rfl rfl rfl ?_
  refine w_iret (pc1 := 486) rfl rfl rfl rfl ?_
  refine w_mv (pc1 := 487) (st1 := [.ref 30, .int 0]) rfl rfl rfl ?_
  refine w_mv (pc1 := 488) (st1 := [.ref 0, .ref 30, .int 0]) rfl rfl rfl ?_
  refine w_mv (pc1 := 490) (st1 := [.int 0, .ref 0, .ref 30, .int 0]) rfl rfl rfl ?_
  refine w_mv (pc1 := 491) (st1 := [.int 1, .int 0, .ref 0, .ref 30, .int 0]) rfl rfl rfl ?_
  refine w_mv (pc1 := 492) (st1 := [.int 1, .ref 0, .ref 30, .int 0]) rfl rfl rfl ?_
  refine w_mv (pc1 := 493) (st1 := [.int (xs 1), .ref 30, .int 0]) rfl rfl rfl ?_
  refine w_top h ?_
  refine w_call (M' := sM_159) (vals := [.ref 30, .int 11]) (rest := [.int 0]) (lv' := [(0, .ref 30), (1, .int 11)]) rfl rfl rfl rfl rfl rfl rfl rfl rfl rfl ?_
  refine w_mv (pc1 := 1) (st1 := [.ref 30]) rfl rfl rfl ?_
  refine w_mv (pc1 := 2) (st1 := [.int 0, .ref 30]) rfl rfl rfl ?_
  refine w_st (pc1 := 5) (st1 := []) (hs1 := sH_121 3 xs) (dc1 := 0) (ds1 := 0) (dc2 := 60) (ds2 := 146541) rfl rfl rfl rfl rfl ?_
  refine w_mv (pc1 := 6) (st1 := [.int 11]) rfl rfl rfl ?_
  refine w_mv (pc1 := 14) (st1 := []) rfl rfl rfl ?_
  refine w_mv (pc1 := 15) (st1 := [.int 11]) rfl rfl rfl ?_
  refine w_mv (pc1 := 16) (st1 := [.int 1, .int 11]) rfl rfl rfl ?_
  refine w_mv (pc1 := 24) (st1 := []) rfl rfl rfl ?_
  refine w_mv (pc1 := 25) (st1 := [.int 11]) rfl rfl rfl ?_
  refine w_mv (pc1 := 26) (st1 := [.int 2, .int 11]) rfl rfl rfl ?_
  refine w_mv (pc1 := 34) (st1 := []) rfl rfl rfl ?_
  refine w_mv (pc1 := 35) (st1 := [.int 11]) rfl rfl rfl ?_
  refine w_mv (pc1 := 36) (st1 := [.int 3, .int 11]) rfl rfl rfl ?_
  refine w_mv (pc1 := 38) (st1 := [.int 8, .int 3, .int 11]) rfl rfl rfl ?_
  refine w_call (M' := sM_111) (vals := [.int 11, .int 3, .int 8]) (rest := []) (lv' := [(0, .int 11), (1, .int 3), (2, .int 8)]) rfl rfl rfl rfl rfl rfl rfl rfl rfl rfl ?_
  refine w_mv (pc1 := 1) (st1 := [.int 11]) rfl rfl rfl ?_
  refine w_mv (pc1 := 2) (st1 := [.int 3, .int 11]) rfl rfl rfl ?_
  refine w_mv (pc1 := 5) (st1 := []) rfl rfl rfl ?_
  refine w_mv (pc1 := 6) (st1 := [.int 11]) rfl rfl rfl ?_
  refine w_mv (pc1 := 7) (st1 := [.int 8, .int 11]) rfl rfl rfl ?_
  refine w_mv (pc1 := 14) (st1 := []) rfl rfl rfl ?_
  refine w_mv (pc1 := 15) (st1 := [.int 0]) rfl rfl rfl ?_
  refine w_iret (pc1 := 41) rfl rfl rfl rfl ?_
  refine w_mv (pc1 := 44) (st1 := []) rfl rfl rfl ?_
  refine w_mv (pc1 := 45) (st1 := [.int 11]) rfl rfl rfl ?_
  refine w_mv (pc1 := 47) (st1 := [.int 10, .int 11]) rfl rfl rfl ?_
  refine w_mv (pc1 := 49) (st1 := [.int 13, .int 10, .int 11]) rfl rfl rfl ?_
  refine w_call (M' := sM_111) (vals := [.int 11, .int 10, .int 13]) (rest := []) (lv' := [(0, .int 11), (1, .int 10), (2, .int 13)]) rfl rfl rfl rfl rfl rfl rfl rfl rfl rfl ?_
  refine w_mv (pc1 := 1) (st1 := [.int 11]) rfl rfl rfl ?_
  refine w_mv (pc1 := 2) (st1 := [.int 10, .int 11]) rfl rfl rfl ?_
  refine w_mv (pc1 := 5) (st1 := []) rfl rfl rfl ?_
  refine w_mv (pc1 := 6) (st1 := [.int 11]) rfl rfl rfl ?_
  refine w_mv (pc1 := 7) (st1 := [.int 13, .int 11]) rfl rfl rfl ?_
  refine w_mv (pc1 := 10) (st1 := []) rfl rfl rfl ?_
  refine w_mv (pc1 := 11) (st1 := [.int 1]) rfl rfl rfl ?_
  refine w_mv (pc1 := 15) (st1 := [.int 1]) rfl rfl rfl ?_
  refine w_iret (pc1 := 52) rfl rfl rfl rfl ?_
  refine w_mv (pc1 := 57) (st1 := []) rfl rfl rfl ?_
  refine w_mv (pc1 := 58) (st1 := [.ref 30]) rfl rfl rfl ?_
  refine w_mv (pc1 := 61) (st1 := [.int 0]) rfl rfl rfl ?_
  refine w_mv (pc1 := 64) (st1 := []) rfl rfl rfl ?_
  refine w_mv (pc1 := 65) (st1 := [.int 0]) rfl rfl rfl ?_
  refine w_iret (pc1 := 496) rfl rfl rfl rfl ?_
  refine w_mv (pc1 := 501) (st1 := []) rfl rfl rfl ?_
  refine w_mv (pc1 := 504) (lv1 := [(4, .int 3), (3, .ref 61), (2, .ref 30), (1, .ref 2), (0, .ref 0)]) (st1 := []) rfl rfl rfl ?_
  refine w_mv (pc1 := 23) (st1 := []) rfl rfl rfl ?_
  refine w_mv (pc1 := 25) (st1 := [.int 3]) rfl rfl rfl ?_
  refine w_mv (pc1 := 26) (st1 := [.ref 0, .int 3]) rfl rfl rfl ?_
  refine w_mv (pc1 := 27) (st1 := [.int 3, .int 3]) rfl rfl rfl ?_
  refine w_mv (pc1 := 28) (st1 := [.int 3, .int 3, .int 3]) rfl rfl rfl ?_
  refine w_mv (pc1 := 29) (st1 := [.int 0, .int 3]) rfl rfl rfl ?_
  refine w_mv (pc1 := 507) (st1 := []) rfl rfl rfl ?_
  refine w_mv (pc1 := 508) (st1 := [.int 1]) rfl rfl rfl ?_
  exact sx_wp.stop rfl rfl rfl ⟨rfl, by decide, by decide⟩
set_option maxRecDepth 20000 in
set_option maxHeartbeats 4000000 in
theorem s_k_count12 (xs : Nat → Int32) (h : xs 1 = 12) : s_wp 20 sM_law 476 [(4, .int 0), (3, .ref 61), (2, .ref 30), (1, .ref 2), (0, .ref 0)] [] (sH_121 3 xs) 60 146541 s_fin := by
  refine w_mv (pc1 := 477) (st1 := [.ref 2]) rfl rfl rfl ?_
  refine w_mv (pc1 := 478) (st1 := [.ref 0, .ref 2]) rfl rfl rfl ?_
  refine w_mv (pc1 := 480) (st1 := [.int 0, .ref 0, .ref 2]) rfl rfl rfl ?_
  refine w_mv (pc1 := 481) (st1 := [.int 1, .int 0, .ref 0, .ref 2]) rfl rfl rfl ?_
  refine w_mv (pc1 := 482) (st1 := [.int 1, .ref 0, .ref 2]) rfl rfl rfl ?_
  refine w_mv (pc1 := 483) (st1 := [.int (xs 1), .ref 2]) rfl rfl rfl ?_
  refine w_top h ?_
  refine w_call (M' := sM_7) (vals := [.ref 2, .int 12]) (rest := []) (lv' := [(0, .ref 2), (1, .int 12)]) rfl rfl rfl rfl rfl rfl rfl rfl rfl rfl ?_
  refine w_mv (pc1 := 1) (st1 := [.int 12]) rfl rfl rfl ?_
  refine w_mv (pc1 := 121) (st1 := []) rfl rfl rfl ?_
  refine w_mv (pc1 := 122) (st1 := [.int 12]) rfl rfl rfl ?_
  refine w_mv (pc1 := 124) (st1 := [.int 10, .int 12]) rfl rfl rfl ?_
  refine w_mv (pc1 := 127) (st1 := []) rfl rfl rfl ?_
  refine w_mv (pc1 := 128) (st1 := [.int 12]) rfl rfl rfl ?_
  refine w_mv (pc1 := 130) (st1 := [.int 14, .int 12]) rfl rfl rfl ?_
  refine w_mv (pc1 := 133) (st1 := []) rfl rfl rfl ?_
  refine w_mv (pc1 := 134) (st1 := [.ref 2]) rfl rfl rfl ?_
  refine w_mv (pc1 := 137) (st1 := [.ref 6]) rfl rfl rfl ?_
  refine w_mv (pc1 := 138) (st1 := [.int 12, .ref 6]) rfl rfl rfl ?_
  refine w_mv (pc1 := 140) (st1 := [.int 10, .int 12, .ref 6]) rfl rfl rfl ?_
  refine w_mv (pc1 := 141) (st1 := [.int 2, .ref 6]) rfl rfl rfl ?_
  refine w_call (M' := sM_17) (vals := [.ref 6, .int 2]) (rest := []) (lv' := [(0, .ref 6), (1, .int 2)]) rfl rfl rfl rfl rfl rfl rfl rfl rfl rfl ?_
  refine w_mv (pc1 := 1) (st1 := [.int 2]) rfl rfl rfl ?_
  refine w_mv (pc1 := 4) (st1 := []) rfl rfl rfl ?_
  refine w_mv (pc1 := 5) (st1 := [.int 2]) rfl rfl rfl ?_
  refine w_mv (pc1 := 6) (st1 := [.int 4, .int 2]) rfl rfl rfl ?_
  refine w_mv (pc1 := 9) (st1 := []) rfl rfl rfl ?_
  refine w_mv (pc1 := 10) (st1 := [.ref 6]) rfl rfl rfl ?_
  refine w_mv (pc1 := 13) (st1 := [.ref 14]) rfl rfl rfl ?_
  refine w_mv (pc1 := 14) (st1 := [.int 2, .ref 14]) rfl rfl rfl ?_
  refine w_mv (pc1 := 15) (st1 := [.ref 24]) rfl rfl rfl ?_
  refine w_call (M' := sM_11) (vals := [.ref 24]) (rest := []) (lv' := [(0, .ref 24)]) rfl rfl rfl rfl rfl rfl rfl rfl rfl rfl ?_
  refine w_mv (pc1 := 1) (st1 := [.ref 24]) rfl rfl rfl ?_
  refine w_mv (pc1 := 4) (st1 := [.int 0]) rfl rfl rfl ?_
  refine w_iret (pc1 := 18) rfl rfl rfl rfl ?_
  refine w_mv (pc1 := 22) (st1 := [.int 0]) rfl rfl rfl ?_
  refine w_iret (pc1 := 144) rfl rfl rfl rfl ?_
  refine w_mv (pc1 := 148) (st1 := [.int 0]) rfl rfl rfl ?_
  refine w_iret (pc1 := 486) rfl rfl rfl rfl ?_
  refine w_mv (pc1 := 487) (st1 := [.ref 30, .int 0]) rfl rfl rfl ?_
  refine w_mv (pc1 := 488) (st1 := [.ref 0, .ref 30, .int 0]) rfl rfl rfl ?_
  refine w_mv (pc1 := 490) (st1 := [.int 0, .ref 0, .ref 30, .int 0]) rfl rfl rfl ?_
  refine w_mv (pc1 := 491) (st1 := [.int 1, .int 0, .ref 0, .ref 30, .int 0]) rfl rfl rfl ?_
  refine w_mv (pc1 := 492) (st1 := [.int 1, .ref 0, .ref 30, .int 0]) rfl rfl rfl ?_
  refine w_mv (pc1 := 493) (st1 := [.int (xs 1), .ref 30, .int 0]) rfl rfl rfl ?_
  refine w_top h ?_
  refine w_call (M' := sM_159) (vals := [.ref 30, .int 12]) (rest := [.int 0]) (lv' := [(0, .ref 30), (1, .int 12)]) rfl rfl rfl rfl rfl rfl rfl rfl rfl rfl ?_
  refine w_mv (pc1 := 1) (st1 := [.ref 30]) rfl rfl rfl ?_
  refine w_mv (pc1 := 2) (st1 := [.int 0, .ref 30]) rfl rfl rfl ?_
  refine w_st (pc1 := 5) (st1 := []) (hs1 := sH_121 3 xs) (dc1 := 0) (ds1 := 0) (dc2 := 60) (ds2 := 146541) rfl rfl rfl rfl rfl ?_
  refine w_mv (pc1 := 6) (st1 := [.int 12]) rfl rfl rfl ?_
  refine w_mv (pc1 := 14) (st1 := []) rfl rfl rfl ?_
  refine w_mv (pc1 := 15) (st1 := [.int 12]) rfl rfl rfl ?_
  refine w_mv (pc1 := 16) (st1 := [.int 1, .int 12]) rfl rfl rfl ?_
  refine w_mv (pc1 := 24) (st1 := []) rfl rfl rfl ?_
  refine w_mv (pc1 := 25) (st1 := [.int 12]) rfl rfl rfl ?_
  refine w_mv (pc1 := 26) (st1 := [.int 2, .int 12]) rfl rfl rfl ?_
  refine w_mv (pc1 := 34) (st1 := []) rfl rfl rfl ?_
  refine w_mv (pc1 := 35) (st1 := [.int 12]) rfl rfl rfl ?_
  refine w_mv (pc1 := 36) (st1 := [.int 3, .int 12]) rfl rfl rfl ?_
  refine w_mv (pc1 := 38) (st1 := [.int 8, .int 3, .int 12]) rfl rfl rfl ?_
  refine w_call (M' := sM_111) (vals := [.int 12, .int 3, .int 8]) (rest := []) (lv' := [(0, .int 12), (1, .int 3), (2, .int 8)]) rfl rfl rfl rfl rfl rfl rfl rfl rfl rfl ?_
  refine w_mv (pc1 := 1) (st1 := [.int 12]) rfl rfl rfl ?_
  refine w_mv (pc1 := 2) (st1 := [.int 3, .int 12]) rfl rfl rfl ?_
  refine w_mv (pc1 := 5) (st1 := []) rfl rfl rfl ?_
  refine w_mv (pc1 := 6) (st1 := [.int 12]) rfl rfl rfl ?_
  refine w_mv (pc1 := 7) (st1 := [.int 8, .int 12]) rfl rfl rfl ?_
  refine w_mv (pc1 := 14) (st1 := []) rfl rfl rfl ?_
  refine w_mv (pc1 := 15) (st1 := [.int 0]) rfl rfl rfl ?_
  refine w_iret (pc1 := 41) rfl rfl rfl rfl ?_
  refine w_mv (pc1 := 44) (st1 := []) rfl rfl rfl ?_
  refine w_mv (pc1 := 45) (st1 := [.int 12]) rfl rfl rfl ?_
  refine w_mv (pc1 := 47) (st1 := [.int 10, .int 12]) rfl rfl rfl ?_
  refine w_mv (pc1 := 49) (st1 := [.int 13, .int 10, .int 12]) rfl rfl rfl ?_
  refine w_call (M' := sM_111) (vals := [.int 12, .int 10, .int 13]) (rest := []) (lv' := [(0, .int 12), (1, .int 10), (2, .int 13)]) rfl rfl rfl rfl rfl rfl rfl rfl rfl rfl ?_
  refine w_mv (pc1 := 1) (st1 := [.int 12]) rfl rfl rfl ?_
  refine w_mv (pc1 := 2) (st1 := [.int 10, .int 12]) rfl rfl rfl ?_
  refine w_mv (pc1 := 5) (st1 := []) rfl rfl rfl ?_
  refine w_mv (pc1 := 6) (st1 := [.int 12]) rfl rfl rfl ?_
  refine w_mv (pc1 := 7) (st1 := [.int 13, .int 12]) rfl rfl rfl ?_
  refine w_mv (pc1 := 10) (st1 := []) rfl rfl rfl ?_
  refine w_mv (pc1 := 11) (st1 := [.int 1]) rfl rfl rfl ?_
  refine w_mv (pc1 := 15) (st1 := [.int 1]) rfl rfl rfl ?_
  refine w_iret (pc1 := 52) rfl rfl rfl rfl ?_
  refine w_mv (pc1 := 57) (st1 := []) rfl rfl rfl ?_
  refine w_mv (pc1 := 58) (st1 := [.ref 30]) rfl rfl rfl ?_
  refine w_mv (pc1 := 61) (st1 := [.int 0]) rfl rfl rfl ?_
  refine w_mv (pc1 := 64) (st1 := []) rfl rfl rfl ?_
  refine w_mv (pc1 := 65) (st1 := [.int 0]) rfl rfl rfl ?_
  refine w_iret (pc1 := 496) rfl rfl rfl rfl ?_
  refine w_mv (pc1 := 501) (st1 := []) rfl rfl rfl ?_
  refine w_mv (pc1 := 504) (lv1 := [(4, .int 3), (3, .ref 61), (2, .ref 30), (1, .ref 2), (0, .ref 0)]) (st1 := []) rfl rfl rfl ?_
  refine w_mv (pc1 := 23) (st1 := []) rfl rfl rfl ?_
  refine w_mv (pc1 := 25) (st1 := [.int 3]) rfl rfl rfl ?_
  refine w_mv (pc1 := 26) (st1 := [.ref 0, .int 3]) rfl rfl rfl ?_
  refine w_mv (pc1 := 27) (st1 := [.int 3, .int 3]) rfl rfl rfl ?_
  refine w_mv (pc1 := 28) (st1 := [.int 3, .int 3, .int 3]) rfl rfl rfl ?_
  refine w_mv (pc1 := 29) (st1 := [.int 0, .int 3]) rfl rfl rfl ?_
  refine w_mv (pc1 := 507) (st1 := []) rfl rfl rfl ?_
  refine w_mv (pc1 := 508) (st1 := [.int 1]) rfl rfl rfl ?_
  exact sx_wp.stop rfl rfl rfl ⟨rfl, by decide, by decide⟩
set_option maxRecDepth 20000 in
set_option maxHeartbeats 4000000 in
theorem s_k_count13 (xs : Nat → Int32) (h : xs 1 = 13) : s_wp 20 sM_law 476 [(4, .int 0), (3, .ref 61), (2, .ref 30), (1, .ref 2), (0, .ref 0)] [] (sH_121 3 xs) 60 146541 s_fin := by
  refine w_mv (pc1 := 477) (st1 := [.ref 2]) rfl rfl rfl ?_
  refine w_mv (pc1 := 478) (st1 := [.ref 0, .ref 2]) rfl rfl rfl ?_
  refine w_mv (pc1 := 480) (st1 := [.int 0, .ref 0, .ref 2]) rfl rfl rfl ?_
  refine w_mv (pc1 := 481) (st1 := [.int 1, .int 0, .ref 0, .ref 2]) rfl rfl rfl ?_
  refine w_mv (pc1 := 482) (st1 := [.int 1, .ref 0, .ref 2]) rfl rfl rfl ?_
  refine w_mv (pc1 := 483) (st1 := [.int (xs 1), .ref 2]) rfl rfl rfl ?_
  refine w_top h ?_
  refine w_call (M' := sM_7) (vals := [.ref 2, .int 13]) (rest := []) (lv' := [(0, .ref 2), (1, .int 13)]) rfl rfl rfl rfl rfl rfl rfl rfl rfl rfl ?_
  refine w_mv (pc1 := 1) (st1 := [.int 13]) rfl rfl rfl ?_
  refine w_mv (pc1 := 121) (st1 := []) rfl rfl rfl ?_
  refine w_mv (pc1 := 122) (st1 := [.int 13]) rfl rfl rfl ?_
  refine w_mv (pc1 := 124) (st1 := [.int 10, .int 13]) rfl rfl rfl ?_
  refine w_mv (pc1 := 127) (st1 := []) rfl rfl rfl ?_
  refine w_mv (pc1 := 128) (st1 := [.int 13]) rfl rfl rfl ?_
  refine w_mv (pc1 := 130) (st1 := [.int 14, .int 13]) rfl rfl rfl ?_
  refine w_mv (pc1 := 133) (st1 := []) rfl rfl rfl ?_
  refine w_mv (pc1 := 134) (st1 := [.ref 2]) rfl rfl rfl ?_
  refine w_mv (pc1 := 137) (st1 := [.ref 6]) rfl rfl rfl ?_
  refine w_mv (pc1 := 138) (st1 := [.int 13, .ref 6]) rfl rfl rfl ?_
  refine w_mv (pc1 := 140) (st1 := [.int 10, .int 13, .ref 6]) rfl rfl rfl ?_
  refine w_mv (pc1 := 141) (st1 := [.int 3, .ref 6]) rfl rfl rfl ?_
  refine w_call (M' := sM_17) (vals := [.ref 6, .int 3]) (rest := []) (lv' := [(0, .ref 6), (1, .int 3)]) rfl rfl rfl rfl rfl rfl rfl rfl rfl rfl ?_
  refine w_mv (pc1 := 1) (st1 := [.int 3]) rfl rfl rfl ?_
  refine w_mv (pc1 := 4) (st1 := []) rfl rfl rfl ?_
  refine w_mv (pc1 := 5) (st1 := [.int 3]) rfl rfl rfl ?_
  refine w_mv (pc1 := 6) (st1 := [.int 4, .int 3]) rfl rfl rfl ?_
  refine w_mv (pc1 := 9) (st1 := []) rfl rfl rfl ?_
  refine w_mv (pc1 := 10) (st1 := [.ref 6]) rfl rfl rfl ?_
  refine w_mv (pc1 := 13) (st1 := [.ref 14]) rfl rfl rfl ?_
  refine w_mv (pc1 := 14) (st1 := [.int 3, .ref 14]) rfl rfl rfl ?_
  refine w_mv (pc1 := 15) (st1 := [.ref 26]) rfl rfl rfl ?_
  refine w_call (M' := sM_11) (vals := [.ref 26]) (rest := []) (lv' := [(0, .ref 26)]) rfl rfl rfl rfl rfl rfl rfl rfl rfl rfl ?_
  refine w_mv (pc1 := 1) (st1 := [.ref 26]) rfl rfl rfl ?_
  refine w_mv (pc1 := 4) (st1 := [.int 0]) rfl rfl rfl ?_
  refine w_iret (pc1 := 18) rfl rfl rfl rfl ?_
  refine w_mv (pc1 := 22) (st1 := [.int 0]) rfl rfl rfl ?_
  refine w_iret (pc1 := 144) rfl rfl rfl rfl ?_
  refine w_mv (pc1 := 148) (st1 := [.int 0]) rfl rfl rfl ?_
  refine w_iret (pc1 := 486) rfl rfl rfl rfl ?_
  refine w_mv (pc1 := 487) (st1 := [.ref 30, .int 0]) rfl rfl rfl ?_
  refine w_mv (pc1 := 488) (st1 := [.ref 0, .ref 30, .int 0]) rfl rfl rfl ?_
  refine w_mv (pc1 := 490) (st1 := [.int 0, .ref 0, .ref 30, .int 0]) rfl rfl rfl ?_
  refine w_mv (pc1 := 491) (st1 := [.int 1, .int 0, .ref 0, .ref 30, .int 0]) rfl rfl rfl ?_
  refine w_mv (pc1 := 492) (st1 := [.int 1, .ref 0, .ref 30, .int 0]) rfl rfl rfl ?_
  refine w_mv (pc1 := 493) (st1 := [.int (xs 1), .ref 30, .int 0]) rfl rfl rfl ?_
  refine w_top h ?_
  refine w_call (M' := sM_159) (vals := [.ref 30, .int 13]) (rest := [.int 0]) (lv' := [(0, .ref 30), (1, .int 13)]) rfl rfl rfl rfl rfl rfl rfl rfl rfl rfl ?_
  refine w_mv (pc1 := 1) (st1 := [.ref 30]) rfl rfl rfl ?_
  refine w_mv (pc1 := 2) (st1 := [.int 0, .ref 30]) rfl rfl rfl ?_
  refine w_st (pc1 := 5) (st1 := []) (hs1 := sH_121 3 xs) (dc1 := 0) (ds1 := 0) (dc2 := 60) (ds2 := 146541) rfl rfl rfl rfl rfl ?_
  refine w_mv (pc1 := 6) (st1 := [.int 13]) rfl rfl rfl ?_
  refine w_mv (pc1 := 14) (st1 := []) rfl rfl rfl ?_
  refine w_mv (pc1 := 15) (st1 := [.int 13]) rfl rfl rfl ?_
  refine w_mv (pc1 := 16) (st1 := [.int 1, .int 13]) rfl rfl rfl ?_
  refine w_mv (pc1 := 24) (st1 := []) rfl rfl rfl ?_
  refine w_mv (pc1 := 25) (st1 := [.int 13]) rfl rfl rfl ?_
  refine w_mv (pc1 := 26) (st1 := [.int 2, .int 13]) rfl rfl rfl ?_
  refine w_mv (pc1 := 34) (st1 := []) rfl rfl rfl ?_
  refine w_mv (pc1 := 35) (st1 := [.int 13]) rfl rfl rfl ?_
  refine w_mv (pc1 := 36) (st1 := [.int 3, .int 13]) rfl rfl rfl ?_
  refine w_mv (pc1 := 38) (st1 := [.int 8, .int 3, .int 13]) rfl rfl rfl ?_
  refine w_call (M' := sM_111) (vals := [.int 13, .int 3, .int 8]) (rest := []) (lv' := [(0, .int 13), (1, .int 3), (2, .int 8)]) rfl rfl rfl rfl rfl rfl rfl rfl rfl rfl ?_
  refine w_mv (pc1 := 1) (st1 := [.int 13]) rfl rfl rfl ?_
  refine w_mv (pc1 := 2) (st1 := [.int 3, .int 13]) rfl rfl rfl ?_
  refine w_mv (pc1 := 5) (st1 := []) rfl rfl rfl ?_
  refine w_mv (pc1 := 6) (st1 := [.int 13]) rfl rfl rfl ?_
  refine w_mv (pc1 := 7) (st1 := [.int 8, .int 13]) rfl rfl rfl ?_
  refine w_mv (pc1 := 14) (st1 := []) rfl rfl rfl ?_
  refine w_mv (pc1 := 15) (st1 := [.int 0]) rfl rfl rfl ?_
  refine w_iret (pc1 := 41) rfl rfl rfl rfl ?_
  refine w_mv (pc1 := 44) (st1 := []) rfl rfl rfl ?_
  refine w_mv (pc1 := 45) (st1 := [.int 13]) rfl rfl rfl ?_
  refine w_mv (pc1 := 47) (st1 := [.int 10, .int 13]) rfl rfl rfl ?_
  refine w_mv (pc1 := 49) (st1 := [.int 13, .int 10, .int 13]) rfl rfl rfl ?_
  refine w_call (M' := sM_111) (vals := [.int 13, .int 10, .int 13]) (rest := []) (lv' := [(0, .int 13), (1, .int 10), (2, .int 13)]) rfl rfl rfl rfl rfl rfl rfl rfl rfl rfl ?_
  refine w_mv (pc1 := 1) (st1 := [.int 13]) rfl rfl rfl ?_
  refine w_mv (pc1 := 2) (st1 := [.int 10, .int 13]) rfl rfl rfl ?_
  refine w_mv (pc1 := 5) (st1 := []) rfl rfl rfl ?_
  refine w_mv (pc1 := 6) (st1 := [.int 13]) rfl rfl rfl ?_
  refine w_mv (pc1 := 7) (st1 := [.int 13, .int 13]) rfl rfl rfl ?_
  refine w_mv (pc1 := 10) (st1 := []) rfl rfl rfl ?_
  refine w_mv (pc1 := 11) (st1 := [.int 1]) rfl rfl rfl ?_
  refine w_mv (pc1 := 15) (st1 := [.int 1]) rfl rfl rfl ?_
  refine w_iret (pc1 := 52) rfl rfl rfl rfl ?_
  refine w_mv (pc1 := 57) (st1 := []) rfl rfl rfl ?_
  refine w_mv (pc1 := 58) (st1 := [.ref 30]) rfl rfl rfl ?_
  refine w_mv (pc1 := 61) (st1 := [.int 0]) rfl rfl rfl ?_
  refine w_mv (pc1 := 64) (st1 := []) rfl rfl rfl ?_
  refine w_mv (pc1 := 65) (st1 := [.int 0]) rfl rfl rfl ?_
  refine w_iret (pc1 := 496) rfl rfl rfl rfl ?_
  refine w_mv (pc1 := 501) (st1 := []) rfl rfl rfl ?_
  refine w_mv (pc1 := 504) (lv1 := [(4, .int 3), (3, .ref 61), (2, .ref 30), (1, .ref 2), (0, .ref 0)]) (st1 := []) rfl rfl rfl ?_
  refine w_mv (pc1 := 23) (st1 := []) rfl rfl rfl ?_
  refine w_mv (pc1 := 25) (st1 := [.int 3]) rfl rfl rfl ?_
  refine w_mv (pc1 := 26) (st1 := [.ref 0, .int 3]) rfl rfl rfl ?_
  refine w_mv (pc1 := 27) (st1 := [.int 3, .int 3]) rfl rfl rfl ?_
  refine w_mv (pc1 := 28) (st1 := [.int 3, .int 3, .int 3]) rfl rfl rfl ?_
  refine w_mv (pc1 := 29) (st1 := [.int 0, .int 3]) rfl rfl rfl ?_
  refine w_mv (pc1 := 507) (st1 := []) rfl rfl rfl ?_
  refine w_mv (pc1 := 508) (st1 := [.int 1]) rfl rfl rfl ?_
  exact sx_wp.stop rfl rfl rfl ⟨rfl, by decide, by decide⟩
set_option maxRecDepth 20000 in
set_option maxHeartbeats 4000000 in
theorem s_k_countL (xs : Nat → Int32) (h : (xs 1).toInt < 0) : s_wp 20 sM_law 476 [(4, .int 0), (3, .ref 61), (2, .ref 30), (1, .ref 2), (0, .ref 0)] [] (sH_121 3 xs) 60 146541 s_fin := by
  refine w_mv (pc1 := 477) (st1 := [.ref 2]) rfl rfl rfl ?_
  refine w_mv (pc1 := 478) (st1 := [.ref 0, .ref 2]) rfl rfl rfl ?_
  refine w_mv (pc1 := 480) (st1 := [.int 0, .ref 0, .ref 2]) rfl rfl rfl ?_
  refine w_mv (pc1 := 481) (st1 := [.int 1, .int 0, .ref 0, .ref 2]) rfl rfl rfl ?_
  refine w_mv (pc1 := 482) (st1 := [.int 1, .ref 0, .ref 2]) rfl rfl rfl ?_
  refine w_mv (pc1 := 483) (st1 := [.int (xs 1), .ref 2]) rfl rfl rfl ?_
  refine w_call (M' := sM_7) (vals := [.ref 2, .int (xs 1)]) (rest := []) (lv' := [(0, .ref 2), (1, .int (xs 1))]) rfl rfl rfl rfl rfl rfl rfl rfl rfl rfl ?_
  refine w_mv (pc1 := 1) (st1 := [.int (xs 1)]) rfl rfl rfl ?_
  refine w_swO (pc1 := 121) rfl rfl (show (xs 1).toInt < 0 ∨ 8 < (xs 1).toInt by omega) ?_
  refine w_mv (pc1 := 122) (st1 := [.int (xs 1)]) rfl rfl rfl ?_
  refine w_mv (pc1 := 124) (st1 := [.int 10, .int (xs 1)]) rfl rfl rfl ?_
  refine w_ilt_T (pc1 := 147) rfl rfl (show (xs 1).toInt < 10 by omega) ?_
  refine w_mv (pc1 := 148) (st1 := [.int (-1)]) rfl rfl rfl ?_
  refine w_iret (pc1 := 486) rfl rfl rfl rfl ?_
  refine w_mv (pc1 := 487) (st1 := [.ref 30, .int (-1)]) rfl rfl rfl ?_
  refine w_mv (pc1 := 488) (st1 := [.ref 0, .ref 30, .int (-1)]) rfl rfl rfl ?_
  refine w_mv (pc1 := 490) (st1 := [.int 0, .ref 0, .ref 30, .int (-1)]) rfl rfl rfl ?_
  refine w_mv (pc1 := 491) (st1 := [.int 1, .int 0, .ref 0, .ref 30, .int (-1)]) rfl rfl rfl ?_
  refine w_mv (pc1 := 492) (st1 := [.int 1, .ref 0, .ref 30, .int (-1)]) rfl rfl rfl ?_
  refine w_mv (pc1 := 493) (st1 := [.int (xs 1), .ref 30, .int (-1)]) rfl rfl rfl ?_
  refine w_call (M' := sM_159) (vals := [.ref 30, .int (xs 1)]) (rest := [.int (-1)]) (lv' := [(0, .ref 30), (1, .int (xs 1))]) rfl rfl rfl rfl rfl rfl rfl rfl rfl rfl ?_
  refine w_mv (pc1 := 1) (st1 := [.ref 30]) rfl rfl rfl ?_
  refine w_mv (pc1 := 2) (st1 := [.int 0, .ref 30]) rfl rfl rfl ?_
  refine w_st (pc1 := 5) (st1 := []) (hs1 := sH_121 3 xs) (dc1 := 0) (ds1 := 0) (dc2 := 60) (ds2 := 146541) rfl rfl rfl rfl rfl ?_
  refine w_mv (pc1 := 6) (st1 := [.int (xs 1)]) rfl rfl rfl ?_
  refine w_zne_T (pc1 := 14) rfl rfl (show (xs 1).toInt ≠ 0 by omega) ?_
  refine w_mv (pc1 := 15) (st1 := [.int (xs 1)]) rfl rfl rfl ?_
  refine w_mv (pc1 := 16) (st1 := [.int 1, .int (xs 1)]) rfl rfl rfl ?_
  refine w_ine_T (pc1 := 24) rfl rfl (show (xs 1).toInt ≠ 1 by omega) ?_
  refine w_mv (pc1 := 25) (st1 := [.int (xs 1)]) rfl rfl rfl ?_
  refine w_mv (pc1 := 26) (st1 := [.int 2, .int (xs 1)]) rfl rfl rfl ?_
  refine w_ine_T (pc1 := 34) rfl rfl (show (xs 1).toInt ≠ 2 by omega) ?_
  refine w_mv (pc1 := 35) (st1 := [.int (xs 1)]) rfl rfl rfl ?_
  refine w_mv (pc1 := 36) (st1 := [.int 3, .int (xs 1)]) rfl rfl rfl ?_
  refine w_mv (pc1 := 38) (st1 := [.int 8, .int 3, .int (xs 1)]) rfl rfl rfl ?_
  refine w_call (M' := sM_111) (vals := [.int (xs 1), .int 3, .int 8]) (rest := []) (lv' := [(0, .int (xs 1)), (1, .int 3), (2, .int 8)]) rfl rfl rfl rfl rfl rfl rfl rfl rfl rfl ?_
  refine w_mv (pc1 := 1) (st1 := [.int (xs 1)]) rfl rfl rfl ?_
  refine w_mv (pc1 := 2) (st1 := [.int 3, .int (xs 1)]) rfl rfl rfl ?_
  refine w_ilt_T (pc1 := 14) rfl rfl (show (xs 1).toInt < 3 by omega) ?_
  refine w_mv (pc1 := 15) (st1 := [.int 0]) rfl rfl rfl ?_
  refine w_iret (pc1 := 41) rfl rfl rfl rfl ?_
  refine w_mv (pc1 := 44) (st1 := []) rfl rfl rfl ?_
  refine w_mv (pc1 := 45) (st1 := [.int (xs 1)]) rfl rfl rfl ?_
  refine w_mv (pc1 := 47) (st1 := [.int 10, .int (xs 1)]) rfl rfl rfl ?_
  refine w_mv (pc1 := 49) (st1 := [.int 13, .int 10, .int (xs 1)]) rfl rfl rfl ?_
  refine w_call (M' := sM_111) (vals := [.int (xs 1), .int 10, .int 13]) (rest := []) (lv' := [(0, .int (xs 1)), (1, .int 10), (2, .int 13)]) rfl rfl rfl rfl rfl rfl rfl rfl rfl rfl ?_
  refine w_mv (pc1 := 1) (st1 := [.int (xs 1)]) rfl rfl rfl ?_
  refine w_mv (pc1 := 2) (st1 := [.int 10, .int (xs 1)]) rfl rfl rfl ?_
  refine w_ilt_T (pc1 := 14) rfl rfl (show (xs 1).toInt < 10 by omega) ?_
  refine w_mv (pc1 := 15) (st1 := [.int 0]) rfl rfl rfl ?_
  refine w_iret (pc1 := 52) rfl rfl rfl rfl ?_
  refine w_mv (pc1 := 55) (st1 := []) rfl rfl rfl ?_
  refine w_mv (pc1 := 56) (st1 := [.int (-1)]) rfl rfl rfl ?_
  refine w_iret (pc1 := 496) rfl rfl rfl rfl ?_
  refine w_mv (pc1 := 501) (st1 := []) rfl rfl rfl ?_
  refine w_mv (pc1 := 504) (lv1 := [(4, .int 3), (3, .ref 61), (2, .ref 30), (1, .ref 2), (0, .ref 0)]) (st1 := []) rfl rfl rfl ?_
  refine w_mv (pc1 := 23) (st1 := []) rfl rfl rfl ?_
  refine w_mv (pc1 := 25) (st1 := [.int 3]) rfl rfl rfl ?_
  refine w_mv (pc1 := 26) (st1 := [.ref 0, .int 3]) rfl rfl rfl ?_
  refine w_mv (pc1 := 27) (st1 := [.int 3, .int 3]) rfl rfl rfl ?_
  refine w_mv (pc1 := 28) (st1 := [.int 3, .int 3, .int 3]) rfl rfl rfl ?_
  refine w_mv (pc1 := 29) (st1 := [.int 0, .int 3]) rfl rfl rfl ?_
  refine w_mv (pc1 := 507) (st1 := []) rfl rfl rfl ?_
  refine w_mv (pc1 := 508) (st1 := [.int 1]) rfl rfl rfl ?_
  exact sx_wp.stop rfl rfl rfl ⟨rfl, by decide, by decide⟩
set_option maxRecDepth 20000 in
set_option maxHeartbeats 4000000 in
theorem s_k_countH (xs : Nat → Int32) (h : 13 < (xs 1).toInt) : s_wp 20 sM_law 476 [(4, .int 0), (3, .ref 61), (2, .ref 30), (1, .ref 2), (0, .ref 0)] [] (sH_121 3 xs) 60 146541 s_fin := by
  refine w_mv (pc1 := 477) (st1 := [.ref 2]) rfl rfl rfl ?_
  refine w_mv (pc1 := 478) (st1 := [.ref 0, .ref 2]) rfl rfl rfl ?_
  refine w_mv (pc1 := 480) (st1 := [.int 0, .ref 0, .ref 2]) rfl rfl rfl ?_
  refine w_mv (pc1 := 481) (st1 := [.int 1, .int 0, .ref 0, .ref 2]) rfl rfl rfl ?_
  refine w_mv (pc1 := 482) (st1 := [.int 1, .ref 0, .ref 2]) rfl rfl rfl ?_
  refine w_mv (pc1 := 483) (st1 := [.int (xs 1), .ref 2]) rfl rfl rfl ?_
  refine w_call (M' := sM_7) (vals := [.ref 2, .int (xs 1)]) (rest := []) (lv' := [(0, .ref 2), (1, .int (xs 1))]) rfl rfl rfl rfl rfl rfl rfl rfl rfl rfl ?_
  refine w_mv (pc1 := 1) (st1 := [.int (xs 1)]) rfl rfl rfl ?_
  refine w_swO (pc1 := 121) rfl rfl (show (xs 1).toInt < 0 ∨ 8 < (xs 1).toInt by omega) ?_
  refine w_mv (pc1 := 122) (st1 := [.int (xs 1)]) rfl rfl rfl ?_
  refine w_mv (pc1 := 124) (st1 := [.int 10, .int (xs 1)]) rfl rfl rfl ?_
  refine w_ilt_F (pc1 := 127) rfl (by decide) rfl (show 10 ≤ (xs 1).toInt by omega) ?_
  refine w_mv (pc1 := 128) (st1 := [.int (xs 1)]) rfl rfl rfl ?_
  refine w_mv (pc1 := 130) (st1 := [.int 14, .int (xs 1)]) rfl rfl rfl ?_
  refine w_ige_T (pc1 := 147) rfl rfl (show 14 ≤ (xs 1).toInt by omega) ?_
  refine w_mv (pc1 := 148) (st1 := [.int (-1)]) rfl rfl rfl ?_
  refine w_iret (pc1 := 486) rfl rfl rfl rfl ?_
  refine w_mv (pc1 := 487) (st1 := [.ref 30, .int (-1)]) rfl rfl rfl ?_
  refine w_mv (pc1 := 488) (st1 := [.ref 0, .ref 30, .int (-1)]) rfl rfl rfl ?_
  refine w_mv (pc1 := 490) (st1 := [.int 0, .ref 0, .ref 30, .int (-1)]) rfl rfl rfl ?_
  refine w_mv (pc1 := 491) (st1 := [.int 1, .int 0, .ref 0, .ref 30, .int (-1)]) rfl rfl rfl ?_
  refine w_mv (pc1 := 492) (st1 := [.int 1, .ref 0, .ref 30, .int (-1)]) rfl rfl rfl ?_
  refine w_mv (pc1 := 493) (st1 := [.int (xs 1), .ref 30, .int (-1)]) rfl rfl rfl ?_
  refine w_call (M' := sM_159) (vals := [.ref 30, .int (xs 1)]) (rest := [.int (-1)]) (lv' := [(0, .ref 30), (1, .int (xs 1))]) rfl rfl rfl rfl rfl rfl rfl rfl rfl rfl ?_
  refine w_mv (pc1 := 1) (st1 := [.ref 30]) rfl rfl rfl ?_
  refine w_mv (pc1 := 2) (st1 := [.int 0, .ref 30]) rfl rfl rfl ?_
  refine w_st (pc1 := 5) (st1 := []) (hs1 := sH_121 3 xs) (dc1 := 0) (ds1 := 0) (dc2 := 60) (ds2 := 146541) rfl rfl rfl rfl rfl ?_
  refine w_mv (pc1 := 6) (st1 := [.int (xs 1)]) rfl rfl rfl ?_
  refine w_zne_T (pc1 := 14) rfl rfl (show (xs 1).toInt ≠ 0 by omega) ?_
  refine w_mv (pc1 := 15) (st1 := [.int (xs 1)]) rfl rfl rfl ?_
  refine w_mv (pc1 := 16) (st1 := [.int 1, .int (xs 1)]) rfl rfl rfl ?_
  refine w_ine_T (pc1 := 24) rfl rfl (show (xs 1).toInt ≠ 1 by omega) ?_
  refine w_mv (pc1 := 25) (st1 := [.int (xs 1)]) rfl rfl rfl ?_
  refine w_mv (pc1 := 26) (st1 := [.int 2, .int (xs 1)]) rfl rfl rfl ?_
  refine w_ine_T (pc1 := 34) rfl rfl (show (xs 1).toInt ≠ 2 by omega) ?_
  refine w_mv (pc1 := 35) (st1 := [.int (xs 1)]) rfl rfl rfl ?_
  refine w_mv (pc1 := 36) (st1 := [.int 3, .int (xs 1)]) rfl rfl rfl ?_
  refine w_mv (pc1 := 38) (st1 := [.int 8, .int 3, .int (xs 1)]) rfl rfl rfl ?_
  refine w_call (M' := sM_111) (vals := [.int (xs 1), .int 3, .int 8]) (rest := []) (lv' := [(0, .int (xs 1)), (1, .int 3), (2, .int 8)]) rfl rfl rfl rfl rfl rfl rfl rfl rfl rfl ?_
  refine w_mv (pc1 := 1) (st1 := [.int (xs 1)]) rfl rfl rfl ?_
  refine w_mv (pc1 := 2) (st1 := [.int 3, .int (xs 1)]) rfl rfl rfl ?_
  refine w_ilt_F (pc1 := 5) rfl (by decide) rfl (show 3 ≤ (xs 1).toInt by omega) ?_
  refine w_mv (pc1 := 6) (st1 := [.int (xs 1)]) rfl rfl rfl ?_
  refine w_mv (pc1 := 7) (st1 := [.int 8, .int (xs 1)]) rfl rfl rfl ?_
  refine w_igt_T (pc1 := 14) rfl rfl (show 8 < (xs 1).toInt by omega) ?_
  refine w_mv (pc1 := 15) (st1 := [.int 0]) rfl rfl rfl ?_
  refine w_iret (pc1 := 41) rfl rfl rfl rfl ?_
  refine w_mv (pc1 := 44) (st1 := []) rfl rfl rfl ?_
  refine w_mv (pc1 := 45) (st1 := [.int (xs 1)]) rfl rfl rfl ?_
  refine w_mv (pc1 := 47) (st1 := [.int 10, .int (xs 1)]) rfl rfl rfl ?_
  refine w_mv (pc1 := 49) (st1 := [.int 13, .int 10, .int (xs 1)]) rfl rfl rfl ?_
  refine w_call (M' := sM_111) (vals := [.int (xs 1), .int 10, .int 13]) (rest := []) (lv' := [(0, .int (xs 1)), (1, .int 10), (2, .int 13)]) rfl rfl rfl rfl rfl rfl rfl rfl rfl rfl ?_
  refine w_mv (pc1 := 1) (st1 := [.int (xs 1)]) rfl rfl rfl ?_
  refine w_mv (pc1 := 2) (st1 := [.int 10, .int (xs 1)]) rfl rfl rfl ?_
  refine w_ilt_F (pc1 := 5) rfl (by decide) rfl (show 10 ≤ (xs 1).toInt by omega) ?_
  refine w_mv (pc1 := 6) (st1 := [.int (xs 1)]) rfl rfl rfl ?_
  refine w_mv (pc1 := 7) (st1 := [.int 13, .int (xs 1)]) rfl rfl rfl ?_
  refine w_igt_T (pc1 := 14) rfl rfl (show 13 < (xs 1).toInt by omega) ?_
  refine w_mv (pc1 := 15) (st1 := [.int 0]) rfl rfl rfl ?_
  refine w_iret (pc1 := 52) rfl rfl rfl rfl ?_
  refine w_mv (pc1 := 55) (st1 := []) rfl rfl rfl ?_
  refine w_mv (pc1 := 56) (st1 := [.int (-1)]) rfl rfl rfl ?_
  refine w_iret (pc1 := 496) rfl rfl rfl rfl ?_
  refine w_mv (pc1 := 501) (st1 := []) rfl rfl rfl ?_
  refine w_mv (pc1 := 504) (lv1 := [(4, .int 3), (3, .ref 61), (2, .ref 30), (1, .ref 2), (0, .ref 0)]) (st1 := []) rfl rfl rfl ?_
  refine w_mv (pc1 := 23) (st1 := []) rfl rfl rfl ?_
  refine w_mv (pc1 := 25) (st1 := [.int 3]) rfl rfl rfl ?_
  refine w_mv (pc1 := 26) (st1 := [.ref 0, .int 3]) rfl rfl rfl ?_
  refine w_mv (pc1 := 27) (st1 := [.int 3, .int 3]) rfl rfl rfl ?_
  refine w_mv (pc1 := 28) (st1 := [.int 3, .int 3, .int 3]) rfl rfl rfl ?_
  refine w_mv (pc1 := 29) (st1 := [.int 0, .int 3]) rfl rfl rfl ?_
  refine w_mv (pc1 := 507) (st1 := []) rfl rfl rfl ?_
  refine w_mv (pc1 := 508) (st1 := [.int 1]) rfl rfl rfl ?_
  exact sx_wp.stop rfl rfl rfl ⟨rfl, by decide, by decide⟩
theorem s_k_count (xs : Nat → Int32) : s_wp 20 sM_law 476 [(4, .int 0), (3, .ref 61), (2, .ref 30), (1, .ref 2), (0, .ref 0)] [] (sH_121 3 xs) 60 146541 s_fin := by
  by_cases h1 : (xs 1).toInt < 0
  · exact s_k_countL xs h1
  by_cases h2 : 13 < (xs 1).toInt
  · exact s_k_countH xs h2
  by_cases e0 : (xs 1).toInt = 0
  · exact s_k_count0 xs (Int32.toInt_inj.mp (e0.trans (by decide)))
  by_cases e1 : (xs 1).toInt = 1
  · exact s_k_count1 xs (Int32.toInt_inj.mp (e1.trans (by decide)))
  by_cases e2 : (xs 1).toInt = 2
  · exact s_k_count2 xs (Int32.toInt_inj.mp (e2.trans (by decide)))
  by_cases e3 : (xs 1).toInt = 3
  · exact s_k_count3 xs (Int32.toInt_inj.mp (e3.trans (by decide)))
  by_cases e4 : (xs 1).toInt = 4
  · exact s_k_count4 xs (Int32.toInt_inj.mp (e4.trans (by decide)))
  by_cases e5 : (xs 1).toInt = 5
  · exact s_k_count5 xs (Int32.toInt_inj.mp (e5.trans (by decide)))
  by_cases e6 : (xs 1).toInt = 6
  · exact s_k_count6 xs (Int32.toInt_inj.mp (e6.trans (by decide)))
  by_cases e7 : (xs 1).toInt = 7
  · exact s_k_count7 xs (Int32.toInt_inj.mp (e7.trans (by decide)))
  by_cases e8 : (xs 1).toInt = 8
  · exact s_k_count8 xs (Int32.toInt_inj.mp (e8.trans (by decide)))
  by_cases e9 : (xs 1).toInt = 9
  · exact s_k_count9 xs (Int32.toInt_inj.mp (e9.trans (by decide)))
  by_cases e10 : (xs 1).toInt = 10
  · exact s_k_count10 xs (Int32.toInt_inj.mp (e10.trans (by decide)))
  by_cases e11 : (xs 1).toInt = 11
  · exact s_k_count11 xs (Int32.toInt_inj.mp (e11.trans (by decide)))
  by_cases e12 : (xs 1).toInt = 12
  · exact s_k_count12 xs (Int32.toInt_inj.mp (e12.trans (by decide)))
  by_cases e13 : (xs 1).toInt = 13
  · exact s_k_count13 xs (Int32.toInt_inj.mp (e13.trans (by decide)))
  omega
