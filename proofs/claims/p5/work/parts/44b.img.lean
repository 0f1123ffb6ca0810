/-! THE IMAGES, more of them (by program: wip/sx/gen_img.py) -/
set_option maxRecDepth 20000 in
set_option maxHeartbeats 4000000 in
theorem r_133_0 {p1 : Int32} {v : Nat → Int32} {a : Nat → Nat → Int32} {K : Int32 → (Nat → Int32) → (Nat → Nat → Int32) → Prop} (hh : ((1 ≤ p1.toInt → p1.toInt ≤ 100 → (((v 42).toInt = 1 → mT 8 sM_133 32 [(0, .ref 33), (1, .int p1), (2, .int 0)] [] (va_up v 11 0) a K) ∧ ((v 42).toInt ≠ 1 → K 0 (va_up v 11 2) a))) ∧ ((p1.toInt < 1 ∨ 100 < p1.toInt) → K 0 (va_up v 11 1) a))) : mT 8 sM_133 0 [(0, .ref 33), (1, .int p1)] [] v a K := by
  intro A B d dc ds P hP
  refine w_mv (pc1 := 1) (st1 := [.ref 33]) rfl rfl rfl ?_
  refine w_mv (pc1 := 2) (st1 := [.int p1, .ref 33]) rfl rfl rfl ?_
  refine w_mv (pc1 := 3) (st1 := [.int 1, .int p1, .ref 33]) rfl rfl rfl ?_
  refine w_mv (pc1 := 5) (st1 := [.int 100, .int 1, .int p1, .ref 33]) rfl rfl rfl ?_
  refine w_call (M' := sM_111) (vals := [.int p1, .int 1, .int 100]) (rest := [.ref 33]) (lv' := [(0, .int p1), (1, .int 1), (2, .int 100)]) rfl rfl rfl rfl rfl rfl rfl rfl rfl rfl ?_
  refine m_in (fun h1a h1b => ?_) (fun h1c => ?_)
  ·
    replace hh := hh.1 h1a h1b
    refine w_ki (pc1 := 8) rfl ?_
    refine w_call (M' := sM_112) (vals := [.ref 33, .int 1]) (rest := []) (lv' := [(0, .ref 33), (1, .int 1)]) rfl rfl rfl rfl rfl rfl rfl rfl rfl rfl ?_
    refine w_mv (pc1 := 1) (st1 := [.ref 33]) rfl rfl rfl ?_
    refine w_mv (pc1 := 2) (st1 := [.int 1, .ref 33]) rfl rfl rfl ?_
    refine w_mv (pc1 := 5) (st1 := [.ref 33]) rfl rfl rfl ?_
    refine w_mv (pc1 := 6) (st1 := [.int 0, .ref 33]) rfl rfl rfl ?_
    refine w_mv (pc1 := 10) (st1 := [.int 0, .ref 33]) rfl rfl rfl ?_
    refine w_st (pc1 := 13) (st1 := []) (hs1 := mH A B (va_up v 11 0) a) (dc1 := 0) (ds1 := 0) (dc2 := dc) (ds2 := ds) rfl rfl rfl rfl rfl ?_
    refine w_mv (pc1 := 14) (st1 := [.int 1]) rfl rfl rfl ?_
    refine w_mv (pc1 := 21) (st1 := []) rfl rfl rfl ?_
    refine w_mv (pc1 := 22) (st1 := [.int 0]) rfl rfl rfl ?_
    refine w_iret (pc1 := 11) rfl rfl rfl rfl ?_
    refine w_mv (pc1 := 16) (st1 := []) rfl rfl rfl ?_
    refine w_mv (pc1 := 17) (st1 := [.ref 33]) rfl rfl rfl ?_
    refine w_mv (pc1 := 20) (st1 := [.int (v 42)]) rfl rfl rfl ?_
    refine w_mv (pc1 := 21) (st1 := [.int 1, .int (v 42)]) rfl rfl rfl ?_
    by_cases h2 : (v 42).toInt = 1
    ·
      replace hh := hh.1 h2
      refine w_ieq_T (pc1 := 30) rfl rfl (show (v 42).toInt = 1 from h2) ?_
      refine w_mv (pc1 := 31) (st1 := [.int 0]) rfl rfl rfl ?_
      refine w_mv (pc1 := 32) (lv1 := [(2, .int 0), (0, .ref 33), (1, .int p1)]) (st1 := []) rfl rfl rfl ?_
      refine w_wk (l1 := [(0, .ref 33), (1, .int p1), (2, .int 0)]) rfl ⟨rfl, rfl, rfl, trivial⟩ ?_
      exact hh A B d dc ds P hP
    ·
      replace hh := hh.2 h2
      refine w_ieq_F (pc1 := 24) rfl (by decide) rfl (show (v 42).toInt ≠ 1 from h2) ?_
      refine w_mv (pc1 := 25) (st1 := [.ref 33]) rfl rfl rfl ?_
      refine w_mv (pc1 := 26) (st1 := [.int 2, .ref 33]) rfl rfl rfl ?_
      refine w_call (M' := sM_113) (vals := [.ref 33, .int 2]) (rest := []) (lv' := [(0, .ref 33), (1, .int 2)]) rfl rfl rfl rfl rfl rfl rfl rfl rfl rfl ?_
      refine w_mv (pc1 := 1) (st1 := [.ref 33]) rfl rfl rfl ?_
      refine w_mv (pc1 := 2) (st1 := [.int 2, .ref 33]) rfl rfl rfl ?_
      refine w_st (pc1 := 5) (st1 := []) (hs1 := mH A B (va_up v 11 2) a) (dc1 := 0) (ds1 := 0) (dc2 := dc) (ds2 := ds) rfl rfl rfl rfl rfl ?_
      refine w_mv (pc1 := 6) (st1 := [.int 0]) rfl rfl rfl ?_
      refine w_iret (pc1 := 29) rfl rfl rfl rfl ?_
      exact sx_wp.stop rfl rfl rfl (hP 0 _ _ hh)
  ·
    replace hh := hh.2 h1c
    refine w_ki (pc1 := 8) rfl ?_
    refine w_call (M' := sM_112) (vals := [.ref 33, .int 0]) (rest := []) (lv' := [(0, .ref 33), (1, .int 0)]) rfl rfl rfl rfl rfl rfl rfl rfl rfl rfl ?_
    refine w_mv (pc1 := 1) (st1 := [.ref 33]) rfl rfl rfl ?_
    refine w_mv (pc1 := 2) (st1 := [.int 0, .ref 33]) rfl rfl rfl ?_
    refine w_mv (pc1 := 9) (st1 := [.ref 33]) rfl rfl rfl ?_
    refine w_mv (pc1 := 10) (st1 := [.int 1, .ref 33]) rfl rfl rfl ?_
    refine w_st (pc1 := 13) (st1 := []) (hs1 := mH A B (va_up v 11 1) a) (dc1 := 0) (ds1 := 0) (dc2 := dc) (ds2 := ds) rfl rfl rfl rfl rfl ?_
    refine w_mv (pc1 := 14) (st1 := [.int 0]) rfl rfl rfl ?_
    refine w_mv (pc1 := 17) (st1 := []) rfl rfl rfl ?_
    refine w_mv (pc1 := 18) (st1 := [.int 1]) rfl rfl rfl ?_
    refine w_mv (pc1 := 22) (st1 := [.int 1]) rfl rfl rfl ?_
    refine w_iret (pc1 := 11) rfl rfl rfl rfl ?_
    refine w_mv (pc1 := 14) (st1 := []) rfl rfl rfl ?_
    refine w_mv (pc1 := 15) (st1 := [.int 0]) rfl rfl rfl ?_
    exact sx_wp.stop rfl rfl rfl (hP 0 _ _ hh)
set_option maxRecDepth 20000 in
set_option maxHeartbeats 4000000 in
theorem r_133_32 {p1 : Int32} {p2 : Int32} {v : Nat → Int32} {a : Nat → Nat → Int32} {K : Int32 → (Nat → Int32) → (Nat → Nat → Int32) → Prop} (hh : ((p1.toInt ≤ p2.toInt → mT 8 sM_133 61 [(0, .ref 33)] [] v a K) ∧ (p2.toInt < p1.toInt → (((((((a 28) 0) + ((a 28) 1)) + ((a 28) 2)) + ((a 28) 3)).toInt ≤ 0 → mT 8 sM_133 61 [(0, .ref 33)] [] v a K) ∧ (0 < (((((a 28) 0) + ((a 28) 1)) + ((a 28) 2)) + ((a 28) 3)).toInt → (((v 11).toInt ≠ 0 → mT 8 sM_133 61 [(0, .ref 33)] [] v a K) ∧ ((v 11).toInt = 0 → mT 7 sM_134 0 [(0, .ref 33)] [] v a (fun _ v4 a4 => mT 8 sM_133 32 [(0, .ref 33), (1, .int p1), (2, .int (p2 + 1))] [] v4 a4 K)))))))) : mT 8 sM_133 32 [(0, .ref 33), (1, .int p1), (2, .int p2)] [] v a K := by
  intro A B d dc ds P hP
  refine w_mv (pc1 := 33) (st1 := [.int p2]) rfl rfl rfl ?_
  refine w_mv (pc1 := 34) (st1 := [.int p1, .int p2]) rfl rfl rfl ?_
  by_cases h1 : p1.toInt ≤ p2.toInt
  ·
    replace hh := hh.1 h1
    refine w_ige_T (pc1 := 61) rfl rfl (show p1.toInt ≤ p2.toInt from h1) ?_
    refine w_wk (l1 := [(0, .ref 33)]) rfl ⟨rfl, trivial⟩ ?_
    exact hh A B d dc ds P hP
  ·
    replace hh := hh.2 (Int.not_le.mp h1)
    refine w_ige_F (pc1 := 37) rfl (by decide) rfl (show p2.toInt < p1.toInt from (Int.not_le.mp h1)) ?_
    refine w_mv (pc1 := 38) (st1 := [.ref 33]) rfl rfl rfl ?_
    refine w_call (M' := sM_131) (vals := [.ref 33]) (rest := []) (lv' := [(0, .ref 33)]) rfl rfl rfl rfl rfl rfl rfl rfl rfl rfl ?_
    refine w_mv (pc1 := 1) (st1 := [.ref 33]) rfl rfl rfl ?_
    refine w_mv (pc1 := 4) (st1 := [.ref 55]) rfl rfl rfl ?_
    refine w_mv (pc1 := 5) (st1 := [.int 0, .ref 55]) rfl rfl rfl ?_
    refine w_mv (pc1 := 6) (st1 := [.int ((a 28) 0)]) rfl rfl rfl ?_
    refine w_mv (pc1 := 7) (st1 := [.ref 33, .int ((a 28) 0)]) rfl rfl rfl ?_
    refine w_mv (pc1 := 10) (st1 := [.ref 55, .int ((a 28) 0)]) rfl rfl rfl ?_
    refine w_mv (pc1 := 11) (st1 := [.int 1, .ref 55, .int ((a 28) 0)]) rfl rfl rfl ?_
    refine w_mv (pc1 := 12) (st1 := [.int ((a 28) 1), .int ((a 28) 0)]) rfl rfl rfl ?_
    refine w_mv (pc1 := 13) (st1 := [.int (((a 28) 0) + ((a 28) 1))]) rfl rfl rfl ?_
    refine w_mv (pc1 := 14) (st1 := [.ref 33, .int (((a 28) 0) + ((a 28) 1))]) rfl rfl rfl ?_
    refine w_mv (pc1 := 17) (st1 := [.ref 55, .int (((a 28) 0) + ((a 28) 1))]) rfl rfl rfl ?_
    refine w_mv (pc1 := 18) (st1 := [.int 2, .ref 55, .int (((a 28) 0) + ((a 28) 1))]) rfl rfl rfl ?_
    refine w_mv (pc1 := 19) (st1 := [.int ((a 28) 2), .int (((a 28) 0) + ((a 28) 1))]) rfl rfl rfl ?_
    refine w_mv (pc1 := 20) (st1 := [.int ((((a 28) 0) + ((a 28) 1)) + ((a 28) 2))]) rfl rfl rfl ?_
    refine w_mv (pc1 := 21) (st1 := [.ref 33, .int ((((a 28) 0) + ((a 28) 1)) + ((a 28) 2))]) rfl rfl rfl ?_
    refine w_mv (pc1 := 24) (st1 := [.ref 55, .int ((((a 28) 0) + ((a 28) 1)) + ((a 28) 2))]) rfl rfl rfl ?_
    refine w_mv (pc1 := 25) (st1 := [.int 3, .ref 55, .int ((((a 28) 0) + ((a 28) 1)) + ((a 28) 2))]) rfl rfl rfl ?_
    refine w_mv (pc1 := 26) (st1 := [.int ((a 28) 3), .int ((((a 28) 0) + ((a 28) 1)) + ((a 28) 2))]) rfl rfl rfl ?_
    refine w_mv (pc1 := 27) (st1 := [.int (((((a 28) 0) + ((a 28) 1)) + ((a 28) 2)) + ((a 28) 3))]) rfl rfl rfl ?_
    refine w_iret (pc1 := 41) rfl rfl rfl rfl ?_
    by_cases h2 : (((((a 28) 0) + ((a 28) 1)) + ((a 28) 2)) + ((a 28) 3)).toInt ≤ 0
    ·
      replace hh := hh.1 h2
      refine w_zle_T (pc1 := 61) rfl rfl (show (((((a 28) 0) + ((a 28) 1)) + ((a 28) 2)) + ((a 28) 3)).toInt ≤ 0 from h2) ?_
      refine w_wk (l1 := [(0, .ref 33)]) rfl ⟨rfl, trivial⟩ ?_
      exact hh A B d dc ds P hP
    ·
      replace hh := hh.2 (Int.not_le.mp h2)
      refine w_zle_F (pc1 := 44) rfl (by decide) rfl (show 0 < (((((a 28) 0) + ((a 28) 1)) + ((a 28) 2)) + ((a 28) 3)).toInt from (Int.not_le.mp h2)) ?_
      refine w_mv (pc1 := 45) (st1 := [.ref 33]) rfl rfl rfl ?_
      refine w_mv (pc1 := 48) (st1 := [.int (v 11)]) rfl rfl rfl ?_
      by_cases h3 : (v 11).toInt = 0
      ·
        replace hh := hh.2 h3
        refine w_zne_F (pc1 := 51) rfl (by decide) rfl (show (v 11).toInt = 0 from h3) ?_
        refine w_mv (pc1 := 52) (st1 := [.ref 33]) rfl rfl rfl ?_
        refine w_call (M' := sM_134) (vals := [.ref 33]) (rest := []) (lv' := [(0, .ref 33)]) rfl rfl rfl rfl rfl rfl rfl rfl rfl rfl ?_
        refine hh A B _ dc ds _ (fun r4 v4 a4 hh => ?_)
        show s_kont _ _ _ _ _ _ _ (.inl none) (mH A B v4 a4) dc ds
        refine w_kv (pc1 := 55) rfl ?_
        refine w_mv (pc1 := 58) (lv1 := [(2, .int (p2 + 1)), (0, .ref 33), (1, .int p1)]) (st1 := []) rfl rfl rfl ?_
        refine w_mv (pc1 := 32) (st1 := []) rfl rfl rfl ?_
        refine w_wk (l1 := [(0, .ref 33), (1, .int p1), (2, .int (p2 + 1))]) rfl ⟨rfl, rfl, rfl, trivial⟩ ?_
        exact hh A B d dc ds P hP
      ·
        replace hh := hh.1 h3
        refine w_zne_T (pc1 := 61) rfl rfl (show (v 11).toInt ≠ 0 from h3) ?_
        refine w_wk (l1 := [(0, .ref 33)]) rfl ⟨rfl, trivial⟩ ?_
        exact hh A B d dc ds P hP
set_option maxRecDepth 20000 in
set_option maxHeartbeats 4000000 in
theorem r_133_61  {v : Nat → Int32} {a : Nat → Nat → Int32} {K : Int32 → (Nat → Int32) → (Nat → Nat → Int32) → Prop} (hh : (((v 11).toInt ≠ 0 → (((v 11).toInt ≠ 3 → K 0 (va_up v 42 3) a) ∧ ((v 11).toInt = 3 → K 0 (va_up v 42 2) a))) ∧ ((v 11).toInt = 0 → (((((((a 28) 0) + ((a 28) 1)) + ((a 28) 2)) + ((a 28) 3)).toInt ≤ 0 → (((v 40).toInt ≤ 0 → K 1 v a) ∧ (0 < (v 40).toInt → K 2 v a))) ∧ (0 < (((((a 28) 0) + ((a 28) 1)) + ((a 28) 2)) + ((a 28) 3)).toInt → K 0 v a))))) : mT 8 sM_133 61 [(0, .ref 33)] [] v a K := by
  intro A B d dc ds P hP
  refine w_mv (pc1 := 62) (st1 := [.ref 33]) rfl rfl rfl ?_
  refine w_mv (pc1 := 65) (st1 := [.int (v 11)]) rfl rfl rfl ?_
  by_cases h1 : (v 11).toInt = 0
  ·
    replace hh := hh.2 h1
    refine w_zne_F (pc1 := 68) rfl (by decide) rfl (show (v 11).toInt = 0 from h1) ?_
    refine w_mv (pc1 := 69) (st1 := [.ref 33]) rfl rfl rfl ?_
    refine w_call (M' := sM_131) (vals := [.ref 33]) (rest := []) (lv' := [(0, .ref 33)]) rfl rfl rfl rfl rfl rfl rfl rfl rfl rfl ?_
    refine w_mv (pc1 := 1) (st1 := [.ref 33]) rfl rfl rfl ?_
    refine w_mv (pc1 := 4) (st1 := [.ref 55]) rfl rfl rfl ?_
    refine w_mv (pc1 := 5) (st1 := [.int 0, .ref 55]) rfl rfl rfl ?_
    refine w_mv (pc1 := 6) (st1 := [.int ((a 28) 0)]) rfl rfl rfl ?_
    refine w_mv (pc1 := 7) (st1 := [.ref 33, .int ((a 28) 0)]) rfl rfl rfl ?_
    refine w_mv (pc1 := 10) (st1 := [.ref 55, .int ((a 28) 0)]) rfl rfl rfl ?_
    refine w_mv (pc1 := 11) (st1 := [.int 1, .ref 55, .int ((a 28) 0)]) rfl rfl rfl ?_
    refine w_mv (pc1 := 12) (st1 := [.int ((a 28) 1), .int ((a 28) 0)]) rfl rfl rfl ?_
    refine w_mv (pc1 := 13) (st1 := [.int (((a 28) 0) + ((a 28) 1))]) rfl rfl rfl ?_
    refine w_mv (pc1 := 14) (st1 := [.ref 33, .int (((a 28) 0) + ((a 28) 1))]) rfl rfl rfl ?_
    refine w_mv (pc1 := 17) (st1 := [.ref 55, .int (((a 28) 0) + ((a 28) 1))]) rfl rfl rfl ?_
    refine w_mv (pc1 := 18) (st1 := [.int 2, .ref 55, .int (((a 28) 0) + ((a 28) 1))]) rfl rfl rfl ?_
    refine w_mv (pc1 := 19) (st1 := [.int ((a 28) 2), .int (((a 28) 0) + ((a 28) 1))]) rfl rfl rfl ?_
    refine w_mv (pc1 := 20) (st1 := [.int ((((a 28) 0) + ((a 28) 1)) + ((a 28) 2))]) rfl rfl rfl ?_
    refine w_mv (pc1 := 21) (st1 := [.ref 33, .int ((((a 28) 0) + ((a 28) 1)) + ((a 28) 2))]) rfl rfl rfl ?_
    refine w_mv (pc1 := 24) (st1 := [.ref 55, .int ((((a 28) 0) + ((a 28) 1)) + ((a 28) 2))]) rfl rfl rfl ?_
    refine w_mv (pc1 := 25) (st1 := [.int 3, .ref 55, .int ((((a 28) 0) + ((a 28) 1)) + ((a 28) 2))]) rfl rfl rfl ?_
    refine w_mv (pc1 := 26) (st1 := [.int ((a 28) 3), .int ((((a 28) 0) + ((a 28) 1)) + ((a 28) 2))]) rfl rfl rfl ?_
    refine w_mv (pc1 := 27) (st1 := [.int (((((a 28) 0) + ((a 28) 1)) + ((a 28) 2)) + ((a 28) 3))]) rfl rfl rfl ?_
    refine w_iret (pc1 := 72) rfl rfl rfl rfl ?_
    by_cases h2 : (((((a 28) 0) + ((a 28) 1)) + ((a 28) 2)) + ((a 28) 3)).toInt ≤ 0
    ·
      replace hh := hh.1 h2
      refine w_zle_T (pc1 := 79) rfl rfl (show (((((a 28) 0) + ((a 28) 1)) + ((a 28) 2)) + ((a 28) 3)).toInt ≤ 0 from h2) ?_
      refine w_mv (pc1 := 80) (st1 := [.ref 33]) rfl rfl rfl ?_
      refine w_mv (pc1 := 83) (st1 := [.int (v 40)]) rfl rfl rfl ?_
      by_cases h3 : (v 40).toInt ≤ 0
      ·
        replace hh := hh.1 h3
        refine w_zle_T (pc1 := 90) rfl rfl (show (v 40).toInt ≤ 0 from h3) ?_
        refine w_mv (pc1 := 91) (st1 := [.int 1]) rfl rfl rfl ?_
        exact sx_wp.stop rfl rfl rfl (hP 1 _ _ hh)
      ·
        replace hh := hh.2 (Int.not_le.mp h3)
        refine w_zle_F (pc1 := 86) rfl (by decide) rfl (show 0 < (v 40).toInt from (Int.not_le.mp h3)) ?_
        refine w_mv (pc1 := 87) (st1 := [.int 2]) rfl rfl rfl ?_
        refine w_mv (pc1 := 91) (st1 := [.int 2]) rfl rfl rfl ?_
        exact sx_wp.stop rfl rfl rfl (hP 2 _ _ hh)
    ·
      replace hh := hh.2 (Int.not_le.mp h2)
      refine w_zle_F (pc1 := 75) rfl (by decide) rfl (show 0 < (((((a 28) 0) + ((a 28) 1)) + ((a 28) 2)) + ((a 28) 3)).toInt from (Int.not_le.mp h2)) ?_
      refine w_mv (pc1 := 76) (st1 := [.int 0]) rfl rfl rfl ?_
      refine w_mv (pc1 := 91) (st1 := [.int 0]) rfl rfl rfl ?_
      exact sx_wp.stop rfl rfl rfl (hP 0 _ _ hh)
  ·
    replace hh := hh.1 h1
    refine w_zne_T (pc1 := 92) rfl rfl (show (v 11).toInt ≠ 0 from h1) ?_
    refine w_mv (pc1 := 93) (st1 := [.ref 33]) rfl rfl rfl ?_
    refine w_mv (pc1 := 94) (st1 := [.ref 33, .ref 33]) rfl rfl rfl ?_
    refine w_mv (pc1 := 97) (st1 := [.int (v 11), .ref 33]) rfl rfl rfl ?_
    refine w_mv (pc1 := 98) (st1 := [.int 3, .int (v 11), .ref 33]) rfl rfl rfl ?_
    by_cases h4 : (v 11).toInt = 3
    ·
      replace hh := hh.2 h4
      refine w_ine_F (pc1 := 101) rfl (by decide) rfl (show (v 11).toInt = 3 from h4) ?_
      refine w_mv (pc1 := 102) (st1 := [.int 2, .ref 33]) rfl rfl rfl ?_
      refine w_mv (pc1 := 106) (st1 := [.int 2, .ref 33]) rfl rfl rfl ?_
      refine w_st (pc1 := 109) (st1 := []) (hs1 := mH A B (va_up v 42 2) a) (dc1 := 0) (ds1 := 0) (dc2 := dc) (ds2 := ds) rfl rfl rfl rfl rfl ?_
      refine w_mv (pc1 := 110) (st1 := [.int 0]) rfl rfl rfl ?_
      exact sx_wp.stop rfl rfl rfl (hP 0 _ _ hh)
    ·
      replace hh := hh.1 h4
      refine w_ine_T (pc1 := 105) rfl rfl (show (v 11).toInt ≠ 3 from h4) ?_
      refine w_mv (pc1 := 106) (st1 := [.int 3, .ref 33]) rfl rfl rfl ?_
      refine w_st (pc1 := 109) (st1 := []) (hs1 := mH A B (va_up v 42 3) a) (dc1 := 0) (ds1 := 0) (dc2 := dc) (ds2 := ds) rfl rfl rfl rfl rfl ?_
      refine w_mv (pc1 := 110) (st1 := [.int 0]) rfl rfl rfl ?_
      exact sx_wp.stop rfl rfl rfl (hP 0 _ _ hh)
set_option maxRecDepth 20000 in
set_option maxHeartbeats 4000000 in
theorem r_134_0  {v : Nat → Int32} {a : Nat → Nat → Int32} {K : Int32 → (Nat → Int32) → (Nat → Nat → Int32) → Prop} (hh : (((v 39).toInt ≠ 400 → mT 7 sM_134 28 [(0, .ref 33), (1, .int 3)] [] (va_up v 39 (v 39 + 1)) a K) ∧ ((v 39).toInt = 400 → K 0 (va_up v 11 2) a))) : mT 7 sM_134 0 [(0, .ref 33)] [] v a K := by
  intro A B d dc ds P hP
  refine w_mv (pc1 := 1) (st1 := [.ref 33]) rfl rfl rfl ?_
  refine w_mv (pc1 := 4) (st1 := [.int (v 39)]) rfl rfl rfl ?_
  refine w_mv (pc1 := 7) (st1 := [.int 400, .int (v 39)]) rfl rfl rfl ?_
  by_cases h1 : (v 39).toInt = 400
  ·
    replace hh := hh.2 h1
    refine w_ine_F (pc1 := 10) rfl (by decide) rfl (show (v 39).toInt = 400 from h1) ?_
    refine w_mv (pc1 := 11) (st1 := [.ref 33]) rfl rfl rfl ?_
    refine w_mv (pc1 := 12) (st1 := [.int 2, .ref 33]) rfl rfl rfl ?_
    refine w_st (pc1 := 15) (st1 := []) (hs1 := mH A B (va_up v 11 2) a) (dc1 := 0) (ds1 := 0) (dc2 := dc) (ds2 := ds) rfl rfl rfl rfl rfl ?_
    exact sx_wp.stop rfl rfl rfl (hP 0 _ _ hh)
  ·
    replace hh := hh.1 h1
    refine w_ine_T (pc1 := 16) rfl rfl (show (v 39).toInt ≠ 400 from h1) ?_
    refine w_mv (pc1 := 17) (st1 := [.ref 33]) rfl rfl rfl ?_
    refine w_mv (pc1 := 18) (st1 := [.ref 33, .ref 33]) rfl rfl rfl ?_
    refine w_mv (pc1 := 21) (st1 := [.int (v 39), .ref 33]) rfl rfl rfl ?_
    refine w_mv (pc1 := 22) (st1 := [.int 1, .int (v 39), .ref 33]) rfl rfl rfl ?_
    refine w_mv (pc1 := 23) (st1 := [.int (v 39 + 1), .ref 33]) rfl rfl rfl ?_
    refine w_st (pc1 := 26) (st1 := []) (hs1 := mH A B (va_up v 39 (v 39 + 1)) a) (dc1 := 0) (ds1 := 0) (dc2 := dc) (ds2 := ds) rfl rfl rfl rfl rfl ?_
    refine w_mv (pc1 := 27) (st1 := [.int 3]) rfl rfl rfl ?_
    refine w_mv (pc1 := 28) (lv1 := [(1, .int 3), (0, .ref 33)]) (st1 := []) rfl rfl rfl ?_
    refine w_wk (l1 := [(0, .ref 33), (1, .int 3)]) rfl ⟨rfl, rfl, trivial⟩ ?_
    exact hh A B d dc ds P hP
set_option maxRecDepth 20000 in
set_option maxHeartbeats 4000000 in
theorem r_134_28 {p1 : Int32} {v : Nat → Int32} {a : Nat → Nat → Int32} {K : Int32 → (Nat → Int32) → (Nat → Nat → Int32) → Prop} (hh : 0 ≤ p1.toInt ∧ p1.toInt < 4 ∧ ((((a 28) p1.toNatClampNeg).toInt ≠ 0 → 0 ≤ (p1 * 61).toInt ∧ (p1 * 61).toInt < 244 ∧ 0 ≤ p1.toInt ∧ p1.toInt < 4 ∧ 0 ≤ p1.toInt ∧ p1.toInt < 4 ∧ mT 7 sM_134 65 [(0, .ref 33), (1, .int p1), (2, .int ((a 27) (p1 * 61).toNatClampNeg)), (3, .int 0)] [] v (va_up a 28 (upd (a 28) p1.toNatClampNeg (((a 28) p1.toNatClampNeg) - 1))) K) ∧ (((a 28) p1.toNatClampNeg).toInt = 0 → mT 7 sM_134 28 [(0, .ref 33), (1, .int (p1 + (-1)))] [] v a K))) : mT 7 sM_134 28 [(0, .ref 33), (1, .int p1)] [] v a K := by
  intro A B d dc ds P hP
  refine w_mv (pc1 := 29) (st1 := [.ref 33]) rfl rfl rfl ?_
  refine w_mv (pc1 := 32) (st1 := [.ref 55]) rfl rfl rfl ?_
  refine w_mv (pc1 := 33) (st1 := [.int p1, .ref 55]) rfl rfl rfl ?_
  obtain ⟨o1a, o1b, hh⟩ := hh
  refine w_ald (x := 55) (t := 0) (A := (4, .inl (a 28))) (v := .int ((a 28) p1.toNatClampNeg)) (pc1 := 34) rfl rfl rfl rfl rfl o1a o1b rfl rfl ?_
  by_cases h2 : ((a 28) p1.toNatClampNeg).toInt = 0
  ·
    replace hh := hh.2 h2
    refine w_zne_F (pc1 := 37) rfl (by decide) rfl (show ((a 28) p1.toNatClampNeg).toInt = 0 from h2) ?_
    refine w_mv (pc1 := 40) (lv1 := [(1, .int (p1 + (-1))), (0, .ref 33)]) (st1 := []) rfl rfl rfl ?_
    refine w_mv (pc1 := 28) (st1 := []) rfl rfl rfl ?_
    refine w_wk (l1 := [(0, .ref 33), (1, .int (p1 + (-1)))]) rfl ⟨rfl, rfl, trivial⟩ ?_
    exact hh A B d dc ds P hP
  ·
    replace hh := hh.1 h2
    refine w_zne_T (pc1 := 43) rfl rfl (show ((a 28) p1.toNatClampNeg).toInt ≠ 0 from h2) ?_
    refine w_mv (pc1 := 44) (st1 := [.ref 33]) rfl rfl rfl ?_
    refine w_mv (pc1 := 47) (st1 := [.ref 54]) rfl rfl rfl ?_
    refine w_mv (pc1 := 48) (st1 := [.int p1, .ref 54]) rfl rfl rfl ?_
    refine w_mv (pc1 := 50) (st1 := [.int 61, .int p1, .ref 54]) rfl rfl rfl ?_
    refine w_mv (pc1 := 51) (st1 := [.int (p1 * 61), .ref 54]) rfl rfl rfl ?_
    obtain ⟨o3a, o3b, hh⟩ := hh
    refine w_ald (x := 54) (t := 0) (A := (244, .inl (a 27))) (v := .int ((a 27) (p1 * 61).toNatClampNeg)) (pc1 := 52) rfl rfl rfl rfl rfl o3a o3b rfl rfl ?_
    refine w_mv (pc1 := 53) (lv1 := [(2, .int ((a 27) (p1 * 61).toNatClampNeg)), (0, .ref 33), (1, .int p1)]) (st1 := []) rfl rfl rfl ?_
    refine w_mv (pc1 := 54) (st1 := [.ref 33]) rfl rfl rfl ?_
    refine w_mv (pc1 := 57) (st1 := [.ref 55]) rfl rfl rfl ?_
    refine w_mv (pc1 := 58) (st1 := [.int p1, .ref 55]) rfl rfl rfl ?_
    refine w_mv (pc1 := 59) (st1 := [.int p1, .ref 55, .int p1, .ref 55]) rfl rfl rfl ?_
    obtain ⟨o4a, o4b, hh⟩ := hh
    refine w_ald (x := 55) (t := 0) (A := (4, .inl (a 28))) (v := .int ((a 28) p1.toNatClampNeg)) (pc1 := 60) rfl rfl rfl rfl rfl o4a o4b rfl rfl ?_
    refine w_mv (pc1 := 61) (st1 := [.int 1, .int ((a 28) p1.toNatClampNeg), .int p1, .ref 55]) rfl rfl rfl ?_
    refine w_mv (pc1 := 62) (st1 := [.int (((a 28) p1.toNatClampNeg) - 1), .int p1, .ref 55]) rfl rfl rfl ?_
    obtain ⟨o5a, o5b, hh⟩ := hh
    refine w_ast (x := 55) (t := 0) (n := 4) (f := (a 28)) (ty := .int) (nw := fun x => x) (pc1 := 63) (hs1 := mH A B v (va_up a 28 (upd (a 28) p1.toNatClampNeg (((a 28) p1.toNatClampNeg) - 1)))) rfl rfl rfl rfl rfl rfl o5a o5b rfl mst_28 ?_
    refine w_mv (pc1 := 64) (st1 := [.int 0]) rfl rfl rfl ?_
    refine w_mv (pc1 := 65) (lv1 := [(3, .int 0), (2, .int ((a 27) (p1 * 61).toNatClampNeg)), (0, .ref 33), (1, .int p1)]) (st1 := []) rfl rfl rfl ?_
    refine w_wk (l1 := [(0, .ref 33), (1, .int p1), (2, .int ((a 27) (p1 * 61).toNatClampNeg)), (3, .int 0)]) rfl ⟨rfl, rfl, rfl, rfl, trivial⟩ ?_
    exact hh A B d dc ds P hP
set_option maxRecDepth 20000 in
set_option maxHeartbeats 4000000 in
theorem r_134_65 {p1 : Int32} {p2 : Int32} {p3 : Int32} {v : Nat → Int32} {a : Nat → Nat → Int32} {K : Int32 → (Nat → Int32) → (Nat → Nat → Int32) → Prop} (hh : 0 ≤ p1.toInt ∧ p1.toInt < 4 ∧ ((((a 28) p1.toNatClampNeg).toInt ≤ p3.toInt → 0 ≤ p2.toInt ∧ p2.toInt < 61 ∧ ((((a 18) p2.toNatClampNeg).toInt ≠ 0 → 0 ≤ p2.toInt ∧ p2.toInt < 61 ∧ ((((a 18) p2.toNatClampNeg).toInt ≠ 2 → 0 ≤ p2.toInt ∧ p2.toInt < 61 ∧ 0 ≤ p2.toInt ∧ p2.toInt < 61 ∧ 0 ≤ p2.toInt ∧ p2.toInt < 61 ∧ mT 2 sM_151 0 [(0, .ref 33), (1, .int ((a 20) p2.toNatClampNeg)), (2, .int ((a 21) p2.toNatClampNeg))] [] v (va_up a 30 (upd (a 30) p2.toNatClampNeg 0)) (fun r12 v12 a12 => K 0 (va_up v12 11 r12) a12)) ∧ (((a 18) p2.toNatClampNeg).toInt = 2 → mT 3 sM_150 0 [(0, .ref 33), (1, .int p2)] [] v a (fun _ v8 a8 => K 0 v8 a8)))) ∧ (((a 18) p2.toNatClampNeg).toInt = 0 → mT 6 sM_135 0 [(0, .ref 33), (1, .int p2)] [] v a (fun _ v5 a5 => K 0 v5 a5)))) ∧ (p3.toInt < ((a 28) p1.toNatClampNeg).toInt → 0 ≤ (((p1 * 61) + p3) + 1).toInt ∧ (((p1 * 61) + p3) + 1).toInt < 244 ∧ 0 ≤ ((p1 * 61) + p3).toInt ∧ ((p1 * 61) + p3).toInt < 244 ∧ mT 7 sM_134 65 [(0, .ref 33), (1, .int p1), (2, .int p2), (3, .int (p3 + 1))] [] v (va_up a 27 (upd (a 27) ((p1 * 61) + p3).toNatClampNeg ((a 27) (((p1 * 61) + p3) + 1).toNatClampNeg))) K))) : mT 7 sM_134 65 [(0, .ref 33), (1, .int p1), (2, .int p2), (3, .int p3)] [] v a K := by
  intro A B d dc ds P hP
  refine w_mv (pc1 := 66) (st1 := [.int p3]) rfl rfl rfl ?_
  refine w_mv (pc1 := 67) (st1 := [.ref 33, .int p3]) rfl rfl rfl ?_
  refine w_mv (pc1 := 70) (st1 := [.ref 55, .int p3]) rfl rfl rfl ?_
  refine w_mv (pc1 := 71) (st1 := [.int p1, .ref 55, .int p3]) rfl rfl rfl ?_
  obtain ⟨o1a, o1b, hh⟩ := hh
  refine w_ald (x := 55) (t := 0) (A := (4, .inl (a 28))) (v := .int ((a 28) p1.toNatClampNeg)) (pc1 := 72) rfl rfl rfl rfl rfl o1a o1b rfl rfl ?_
  by_cases h2 : ((a 28) p1.toNatClampNeg).toInt ≤ p3.toInt
  ·
    replace hh := hh.1 h2
    refine w_ige_T (pc1 := 105) rfl rfl (show ((a 28) p1.toNatClampNeg).toInt ≤ p3.toInt from h2) ?_
    refine w_mv (pc1 := 106) (st1 := [.ref 33]) rfl rfl rfl ?_
    refine w_mv (pc1 := 109) (st1 := [.ref 45]) rfl rfl rfl ?_
    refine w_mv (pc1 := 110) (st1 := [.int p2, .ref 45]) rfl rfl rfl ?_
    obtain ⟨o3a, o3b, hh⟩ := hh
    refine w_ald (x := 45) (t := 0) (A := (61, .inl (a 18))) (v := .int ((a 18) p2.toNatClampNeg)) (pc1 := 111) rfl rfl rfl rfl rfl o3a o3b rfl rfl ?_
    by_cases h4 : ((a 18) p2.toNatClampNeg).toInt = 0
    ·
      replace hh := hh.2 h4
      refine w_zne_F (pc1 := 114) rfl (by decide) rfl (show ((a 18) p2.toNatClampNeg).toInt = 0 from h4) ?_
      refine w_mv (pc1 := 115) (st1 := [.ref 33]) rfl rfl rfl ?_
      refine w_mv (pc1 := 116) (st1 := [.int p2, .ref 33]) rfl rfl rfl ?_
      refine w_call (M' := sM_135) (vals := [.ref 33, .int p2]) (rest := []) (lv' := [(0, .ref 33), (1, .int p2)]) rfl rfl rfl rfl rfl rfl rfl rfl rfl rfl ?_
      refine hh A B _ dc ds _ (fun r5 v5 a5 hh => ?_)
      show s_kont _ _ _ _ _ _ _ (.inl none) (mH A B v5 a5) dc ds
      refine w_kv (pc1 := 119) rfl ?_
      refine w_mv (pc1 := 167) (st1 := []) rfl rfl rfl ?_
      exact sx_wp.stop rfl rfl rfl (hP 0 _ _ hh)
    ·
      replace hh := hh.1 h4
      refine w_zne_T (pc1 := 122) rfl rfl (show ((a 18) p2.toNatClampNeg).toInt ≠ 0 from h4) ?_
      refine w_mv (pc1 := 123) (st1 := [.ref 33]) rfl rfl rfl ?_
      refine w_mv (pc1 := 126) (st1 := [.ref 45]) rfl rfl rfl ?_
      refine w_mv (pc1 := 127) (st1 := [.int p2, .ref 45]) rfl rfl rfl ?_
      obtain ⟨o6a, o6b, hh⟩ := hh
      refine w_ald (x := 45) (t := 0) (A := (61, .inl (a 18))) (v := .int ((a 18) p2.toNatClampNeg)) (pc1 := 128) rfl rfl rfl rfl rfl o6a o6b rfl rfl ?_
      refine w_mv (pc1 := 129) (st1 := [.int 2, .int ((a 18) p2.toNatClampNeg)]) rfl rfl rfl ?_
      by_cases h7 : ((a 18) p2.toNatClampNeg).toInt = 2
      ·
        replace hh := hh.2 h7
        refine w_ine_F (pc1 := 132) rfl (by decide) rfl (show ((a 18) p2.toNatClampNeg).toInt = 2 from h7) ?_
        refine w_mv (pc1 := 133) (st1 := [.ref 33]) rfl rfl rfl ?_
        refine w_mv (pc1 := 134) (st1 := [.int p2, .ref 33]) rfl rfl rfl ?_
        refine w_call (M' := sM_150) (vals := [.ref 33, .int p2]) (rest := []) (lv' := [(0, .ref 33), (1, .int p2)]) rfl rfl rfl rfl rfl rfl rfl rfl rfl rfl ?_
        refine hh A B _ dc ds _ (fun r8 v8 a8 hh => ?_)
        show s_kont _ _ _ _ _ _ _ (.inl none) (mH A B v8 a8) dc ds
        refine w_kv (pc1 := 137) rfl ?_
        refine w_mv (pc1 := 167) (st1 := []) rfl rfl rfl ?_
        exact sx_wp.stop rfl rfl rfl (hP 0 _ _ hh)
      ·
        replace hh := hh.1 h7
        refine w_ine_T (pc1 := 140) rfl rfl (show ((a 18) p2.toNatClampNeg).toInt ≠ 2 from h7) ?_
        refine w_mv (pc1 := 141) (st1 := [.ref 33]) rfl rfl rfl ?_
        refine w_mv (pc1 := 144) (st1 := [.ref 57]) rfl rfl rfl ?_
        refine w_mv (pc1 := 145) (st1 := [.int p2, .ref 57]) rfl rfl rfl ?_
        refine w_mv (pc1 := 146) (st1 := [.int 0, .int p2, .ref 57]) rfl rfl rfl ?_
        obtain ⟨o9a, o9b, hh⟩ := hh
        refine w_ast (x := 57) (t := 2) (n := 61) (f := (a 30)) (ty := .boolean) (nw := vp_nar .boolean) (pc1 := 147) (hs1 := mH A B v (va_up a 30 (upd (a 30) p2.toNatClampNeg 0))) rfl rfl rfl rfl rfl rfl o9a o9b rfl mst_30 ?_
        refine w_mv (pc1 := 148) (st1 := [.ref 33]) rfl rfl rfl ?_
        refine w_mv (pc1 := 149) (st1 := [.ref 33, .ref 33]) rfl rfl rfl ?_
        refine w_mv (pc1 := 150) (st1 := [.ref 33, .ref 33, .ref 33]) rfl rfl rfl ?_
        refine w_mv (pc1 := 153) (st1 := [.ref 47, .ref 33, .ref 33]) rfl rfl rfl ?_
        refine w_mv (pc1 := 154) (st1 := [.int p2, .ref 47, .ref 33, .ref 33]) rfl rfl rfl ?_
        obtain ⟨o10a, o10b, hh⟩ := hh
        refine w_ald (x := 47) (t := 0) (A := (61, .inl (a 20))) (v := .int ((a 20) p2.toNatClampNeg)) (pc1 := 155) rfl rfl rfl rfl rfl o10a o10b rfl rfl ?_
        refine w_mv (pc1 := 156) (st1 := [.ref 33, .int ((a 20) p2.toNatClampNeg), .ref 33, .ref 33]) rfl rfl rfl ?_
        refine w_mv (pc1 := 159) (st1 := [.ref 48, .int ((a 20) p2.toNatClampNeg), .ref 33, .ref 33]) rfl rfl rfl ?_
        refine w_mv (pc1 := 160) (st1 := [.int p2, .ref 48, .int ((a 20) p2.toNatClampNeg), .ref 33, .ref 33]) rfl rfl rfl ?_
        obtain ⟨o11a, o11b, hh⟩ := hh
        refine w_ald (x := 48) (t := 0) (A := (61, .inl (a 21))) (v := .int ((a 21) p2.toNatClampNeg)) (pc1 := 161) rfl rfl rfl rfl rfl o11a o11b rfl rfl ?_
        refine w_call (M' := sM_151) (vals := [.ref 33, .int ((a 20) p2.toNatClampNeg), .int ((a 21) p2.toNatClampNeg)]) (rest := [.ref 33]) (lv' := [(0, .ref 33), (1, .int ((a 20) p2.toNatClampNeg)), (2, .int ((a 21) p2.toNatClampNeg))]) rfl rfl rfl rfl rfl rfl rfl rfl rfl rfl ?_
        refine hh A B _ dc ds _ (fun r12 v12 a12 hh => ?_)
        show s_kont _ _ _ _ _ _ _ (.inl (some (.int r12))) (mH A B v12 a12) dc ds
        refine w_ki (pc1 := 164) rfl ?_
        refine w_st (pc1 := 167) (st1 := []) (hs1 := mH A B (va_up v12 11 r12) a12) (dc1 := 0) (ds1 := 0) (dc2 := dc) (ds2 := ds) rfl rfl rfl rfl rfl ?_
        exact sx_wp.stop rfl rfl rfl (hP 0 _ _ hh)
  ·
    replace hh := hh.2 (Int.not_le.mp h2)
    refine w_ige_F (pc1 := 75) rfl (by decide) rfl (show p3.toInt < ((a 28) p1.toNatClampNeg).toInt from (Int.not_le.mp h2)) ?_
    refine w_mv (pc1 := 76) (st1 := [.ref 33]) rfl rfl rfl ?_
    refine w_mv (pc1 := 79) (st1 := [.ref 54]) rfl rfl rfl ?_
    refine w_mv (pc1 := 80) (st1 := [.int p1, .ref 54]) rfl rfl rfl ?_
    refine w_mv (pc1 := 82) (st1 := [.int 61, .int p1, .ref 54]) rfl rfl rfl ?_
    refine w_mv (pc1 := 83) (st1 := [.int (p1 * 61), .ref 54]) rfl rfl rfl ?_
    refine w_mv (pc1 := 84) (st1 := [.int p3, .int (p1 * 61), .ref 54]) rfl rfl rfl ?_
    refine w_mv (pc1 := 85) (st1 := [.int ((p1 * 61) + p3), .ref 54]) rfl rfl rfl ?_
    refine w_mv (pc1 := 86) (st1 := [.ref 33, .int ((p1 * 61) + p3), .ref 54]) rfl rfl rfl ?_
    refine w_mv (pc1 := 89) (st1 := [.ref 54, .int ((p1 * 61) + p3), .ref 54]) rfl rfl rfl ?_
    refine w_mv (pc1 := 90) (st1 := [.int p1, .ref 54, .int ((p1 * 61) + p3), .ref 54]) rfl rfl rfl ?_
    refine w_mv (pc1 := 92) (st1 := [.int 61, .int p1, .ref 54, .int ((p1 * 61) + p3), .ref 54]) rfl rfl rfl ?_
    refine w_mv (pc1 := 93) (st1 := [.int (p1 * 61), .ref 54, .int ((p1 * 61) + p3), .ref 54]) rfl rfl rfl ?_
    refine w_mv (pc1 := 94) (st1 := [.int p3, .int (p1 * 61), .ref 54, .int ((p1 * 61) + p3), .ref 54]) rfl rfl rfl ?_
    refine w_mv (pc1 := 95) (st1 := [.int ((p1 * 61) + p3), .ref 54, .int ((p1 * 61) + p3), .ref 54]) rfl rfl rfl ?_
    refine w_mv (pc1 := 96) (st1 := [.int 1, .int ((p1 * 61) + p3), .ref 54, .int ((p1 * 61) + p3), .ref 54]) rfl rfl rfl ?_
    refine w_mv (pc1 := 97) (st1 := [.int (((p1 * 61) + p3) + 1), .ref 54, .int ((p1 * 61) + p3), .ref 54]) rfl rfl rfl ?_
    obtain ⟨o13a, o13b, hh⟩ := hh
    refine w_ald (x := 54) (t := 0) (A := (244, .inl (a 27))) (v := .int ((a 27) (((p1 * 61) + p3) + 1).toNatClampNeg)) (pc1 := 98) rfl rfl rfl rfl rfl o13a o13b rfl rfl ?_
    obtain ⟨o14a, o14b, hh⟩ := hh
    refine w_ast (x := 54) (t := 0) (n := 244) (f := (a 27)) (ty := .int) (nw := fun x => x) (pc1 := 99) (hs1 := mH A B v (va_up a 27 (upd (a 27) ((p1 * 61) + p3).toNatClampNeg ((a 27) (((p1 * 61) + p3) + 1).toNatClampNeg)))) rfl rfl rfl rfl rfl rfl o14a o14b rfl mst_27 ?_
    refine w_mv (pc1 := 102) (lv1 := [(3, .int (p3 + 1)), (0, .ref 33), (1, .int p1), (2, .int p2)]) (st1 := []) rfl rfl rfl ?_
    refine w_mv (pc1 := 65) (st1 := []) rfl rfl rfl ?_
    refine w_wk (l1 := [(0, .ref 33), (1, .int p1), (2, .int p2), (3, .int (p3 + 1))]) rfl ⟨rfl, rfl, rfl, rfl, trivial⟩ ?_
    exact hh A B d dc ds P hP
set_option maxRecDepth 20000 in
set_option maxHeartbeats 4000000 in
theorem r_135_0 {p1 : Int32} {v : Nat → Int32} {a : Nat → Nat → Int32} {K : Int32 → (Nat → Int32) → (Nat → Nat → Int32) → Prop} (hh : 0 ≤ p1.toInt ∧ p1.toInt < 61 ∧ mT 0 sM_136 0 [(0, .ref 33), (1, .int ((a 20) p1.toNatClampNeg))] [] v a (fun r2 v2 a2 => mT 6 sM_135 18 [(0, .ref 33), (1, .int p1), (2, .int r2), (3, .int 0)] [] (va_up v2 43 0) a2 K)) : mT 6 sM_135 0 [(0, .ref 33), (1, .int p1)] [] v a K := by
  intro A B d dc ds P hP
  refine w_mv (pc1 := 1) (st1 := [.ref 33]) rfl rfl rfl ?_
  refine w_mv (pc1 := 2) (st1 := [.ref 33, .ref 33]) rfl rfl rfl ?_
  refine w_mv (pc1 := 5) (st1 := [.ref 47, .ref 33]) rfl rfl rfl ?_
  refine w_mv (pc1 := 6) (st1 := [.int p1, .ref 47, .ref 33]) rfl rfl rfl ?_
  obtain ⟨o1a, o1b, hh⟩ := hh
  refine w_ald (x := 47) (t := 0) (A := (61, .inl (a 20))) (v := .int ((a 20) p1.toNatClampNeg)) (pc1 := 7) rfl rfl rfl rfl rfl o1a o1b rfl rfl ?_
  refine w_call (M' := sM_136) (vals := [.ref 33, .int ((a 20) p1.toNatClampNeg)]) (rest := []) (lv' := [(0, .ref 33), (1, .int ((a 20) p1.toNatClampNeg))]) rfl rfl rfl rfl rfl rfl rfl rfl rfl rfl ?_
  refine hh A B _ dc ds _ (fun r2 v2 a2 hh => ?_)
  show s_kont _ _ _ _ _ _ _ (.inl (some (.int r2))) (mH A B v2 a2) dc ds
  refine w_ki (pc1 := 10) rfl ?_
  refine w_mv (pc1 := 11) (lv1 := [(2, .int r2), (0, .ref 33), (1, .int p1)]) (st1 := []) rfl rfl rfl ?_
  refine w_mv (pc1 := 12) (st1 := [.ref 33]) rfl rfl rfl ?_
  refine w_mv (pc1 := 13) (st1 := [.int 0, .ref 33]) rfl rfl rfl ?_
  refine w_st (pc1 := 16) (st1 := []) (hs1 := mH A B (va_up v2 43 0) a2) (dc1 := 0) (ds1 := 0) (dc2 := dc) (ds2 := ds) rfl rfl rfl rfl rfl ?_
  refine w_mv (pc1 := 17) (st1 := [.int 0]) rfl rfl rfl ?_
  refine w_mv (pc1 := 18) (lv1 := [(3, .int 0), (2, .int r2), (0, .ref 33), (1, .int p1)]) (st1 := []) rfl rfl rfl ?_
  refine w_wk (l1 := [(0, .ref 33), (1, .int p1), (2, .int r2), (3, .int 0)]) rfl ⟨rfl, rfl, rfl, rfl, trivial⟩ ?_
  exact hh A B d dc ds P hP
set_option maxRecDepth 20000 in
set_option maxHeartbeats 4000000 in
theorem r_135_18 {p1 : Int32} {p2 : Int32} {p3 : Int32} {v : Nat → Int32} {a : Nat → Nat → Int32} {K : Int32 → (Nat → Int32) → (Nat → Nat → Int32) → Prop} (hh : (((v 8).toInt ≤ p3.toInt → (((v 43).toInt ≤ 0 → K 0 (va_up v 11 3) a) ∧ (0 < (v 43).toInt → mT 0 sM_149 0 [(0, .ref 33), (1, .int p1)] [] v a (fun _ v3 a3 => K 0 v3 a3)))) ∧ (p3.toInt < (v 8).toInt → mT 0 sM_137 0 [(0, .ref 33), (1, .int p3), (2, .int p2)] [] v a (fun r4 v4 a4 => ((r4.toInt ≠ 0 → mT 5 sM_138 0 [(0, .ref 33), (1, .int p3), (2, .int p2)] [] v4 a4 (fun r6 v6 a6 => ((r6.toInt ≠ 2147483646 → ((0 ≤ r6.toInt → ((r6.toInt = 1 → 0 ≤ p1.toInt ∧ p1.toInt < 61 ∧ 0 ≤ p1.toInt ∧ p1.toInt < 61 ∧ mT 0 sM_122 0 [(0, .ref 33), (1, .int (p3 * 48))] [] v6 (va_up a6 30 (upd (a6 30) p1.toNatClampNeg 0)) (fun _ v12 a12 => mT 4 sM_123 0 [(0, .ref 33), (1, .int ((a6 19) p1.toNatClampNeg))] [] (va_up v12 12 (v12 12 + 1)) a12 (fun r13 v13 a13 => K 0 v13 a13))) ∧ (r6.toInt ≠ 1 → mT 6 sM_135 18 [(0, .ref 33), (1, .int p1), (2, .int p2), (3, .int (p3 + 1))] [] v6 a6 K))) ∧ (r6.toInt < 0 → mT 0 sM_148 0 [(0, .ref 33), (1, .int r6)] [] v6 a6 (fun _ v14 a14 => ((r6.toInt = 1 → 0 ≤ p1.toInt ∧ p1.toInt < 61 ∧ 0 ≤ p1.toInt ∧ p1.toInt < 61 ∧ mT 0 sM_122 0 [(0, .ref 33), (1, .int (p3 * 48))] [] v14 (va_up a14 30 (upd (a14 30) p1.toNatClampNeg 0)) (fun _ v18 a18 => mT 4 sM_123 0 [(0, .ref 33), (1, .int ((a14 19) p1.toNatClampNeg))] [] (va_up v18 12 (v18 12 + 1)) a18 (fun r19 v19 a19 => K 0 v19 a19))) ∧ (r6.toInt ≠ 1 → mT 6 sM_135 18 [(0, .ref 33), (1, .int p1), (2, .int p2), (3, .int (p3 + 1))] [] v14 a14 K)))))) ∧ (r6.toInt = 2147483646 → K 0 (va_up v6 11 2) a6)))) ∧ (r4.toInt = 0 → mT 6 sM_135 18 [(0, .ref 33), (1, .int p1), (2, .int p2), (3, .int (p3 + 1))] [] v4 a4 K)))))) : mT 6 sM_135 18 [(0, .ref 33), (1, .int p1), (2, .int p2), (3, .int p3)] [] v a K := by
  intro A B d dc ds P hP
  refine w_mv (pc1 := 19) (st1 := [.int p3]) rfl rfl rfl ?_
  refine w_mv (pc1 := 20) (st1 := [.ref 33, .int p3]) rfl rfl rfl ?_
  refine w_mv (pc1 := 23) (st1 := [.int (v 8), .int p3]) rfl rfl rfl ?_
  by_cases h1 : (v 8).toInt ≤ p3.toInt
  ·
    replace hh := hh.1 h1
    refine w_ige_T (pc1 := 127) rfl rfl (show (v 8).toInt ≤ p3.toInt from h1) ?_
    refine w_mv (pc1 := 128) (st1 := [.ref 33]) rfl rfl rfl ?_
    refine w_mv (pc1 := 131) (st1 := [.int (v 43)]) rfl rfl rfl ?_
    by_cases h2 : (v 43).toInt ≤ 0
    ·
      replace hh := hh.1 h2
      refine w_zle_T (pc1 := 142) rfl rfl (show (v 43).toInt ≤ 0 from h2) ?_
      refine w_mv (pc1 := 143) (st1 := [.ref 33]) rfl rfl rfl ?_
      refine w_mv (pc1 := 144) (st1 := [.int 3, .ref 33]) rfl rfl rfl ?_
      refine w_st (pc1 := 147) (st1 := []) (hs1 := mH A B (va_up v 11 3) a) (dc1 := 0) (ds1 := 0) (dc2 := dc) (ds2 := ds) rfl rfl rfl rfl rfl ?_
      exact sx_wp.stop rfl rfl rfl (hP 0 _ _ hh)
    ·
      replace hh := hh.2 (Int.not_le.mp h2)
      refine w_zle_F (pc1 := 134) rfl (by decide) rfl (show 0 < (v 43).toInt from (Int.not_le.mp h2)) ?_
      refine w_mv (pc1 := 135) (st1 := [.ref 33]) rfl rfl rfl ?_
      refine w_mv (pc1 := 136) (st1 := [.int p1, .ref 33]) rfl rfl rfl ?_
      refine w_call (M' := sM_149) (vals := [.ref 33, .int p1]) (rest := []) (lv' := [(0, .ref 33), (1, .int p1)]) rfl rfl rfl rfl rfl rfl rfl rfl rfl rfl ?_
      refine hh A B _ dc ds _ (fun r3 v3 a3 hh => ?_)
      show s_kont _ _ _ _ _ _ _ (.inl none) (mH A B v3 a3) dc ds
      refine w_kv (pc1 := 139) rfl ?_
      refine w_mv (pc1 := 147) (st1 := []) rfl rfl rfl ?_
      exact sx_wp.stop rfl rfl rfl (hP 0 _ _ hh)
  ·
    replace hh := hh.2 (Int.not_le.mp h1)
    refine w_ige_F (pc1 := 26) rfl (by decide) rfl (show p3.toInt < (v 8).toInt from (Int.not_le.mp h1)) ?_
    refine w_mv (pc1 := 27) (st1 := [.ref 33]) rfl rfl rfl ?_
    refine w_mv (pc1 := 28) (st1 := [.int p3, .ref 33]) rfl rfl rfl ?_
    refine w_mv (pc1 := 29) (st1 := [.int p2, .int p3, .ref 33]) rfl rfl rfl ?_
    refine w_call (M' := sM_137) (vals := [.ref 33, .int p3, .int p2]) (rest := []) (lv' := [(0, .ref 33), (1, .int p3), (2, .int p2)]) rfl rfl rfl rfl rfl rfl rfl rfl rfl rfl ?_
    refine hh A B _ dc ds _ (fun r4 v4 a4 hh => ?_)
    show s_kont _ _ _ _ _ _ _ (.inl (some (.int r4))) (mH A B v4 a4) dc ds
    refine w_ki (pc1 := 32) rfl ?_
    by_cases h5 : r4.toInt = 0
    ·
      replace hh := hh.2 h5
      refine w_zne_F (pc1 := 35) rfl (by decide) rfl (show r4.toInt = 0 from h5) ?_
      refine w_mv (pc1 := 121) (st1 := []) rfl rfl rfl ?_
      refine w_mv (pc1 := 124) (lv1 := [(3, .int (p3 + 1)), (0, .ref 33), (1, .int p1), (2, .int p2)]) (st1 := []) rfl rfl rfl ?_
      refine w_mv (pc1 := 18) (st1 := []) rfl rfl rfl ?_
      refine w_wk (l1 := [(0, .ref 33), (1, .int p1), (2, .int p2), (3, .int (p3 + 1))]) rfl ⟨rfl, rfl, rfl, rfl, trivial⟩ ?_
      exact hh A B d dc ds P hP
    ·
      replace hh := hh.1 h5
      refine w_zne_T (pc1 := 38) rfl rfl (show r4.toInt ≠ 0 from h5) ?_
      refine w_mv (pc1 := 39) (st1 := [.ref 33]) rfl rfl rfl ?_
      refine w_mv (pc1 := 40) (st1 := [.int p3, .ref 33]) rfl rfl rfl ?_
      refine w_mv (pc1 := 41) (st1 := [.int p2, .int p3, .ref 33]) rfl rfl rfl ?_
      refine w_call (M' := sM_138) (vals := [.ref 33, .int p3, .int p2]) (rest := []) (lv' := [(0, .ref 33), (1, .int p3), (2, .int p2)]) rfl rfl rfl rfl rfl rfl rfl rfl rfl rfl ?_
      refine hh A B _ dc ds _ (fun r6 v6 a6 hh => ?_)
      show s_kont _ _ _ _ _ _ _ (.inl (some (.int r6))) (mH A B v6 a6) dc ds
      refine w_ki (pc1 := 44) rfl ?_
      refine w_mv (pc1 := 46) (lv1 := [(4, .int r6), (0, .ref 33), (1, .int p1), (2, .int p2), (3, .int p3)]) (st1 := []) rfl rfl rfl ?_
      refine w_mv (pc1 := 48) (st1 := [.int r6]) rfl rfl rfl ?_
      refine w_mv (pc1 := 50) (st1 := [.int 2147483646, .int r6]) rfl rfl rfl ?_
      by_cases h7 : r6.toInt = 2147483646
      ·
        replace hh := hh.2 h7
        refine w_ine_F (pc1 := 53) rfl (by decide) rfl (show r6.toInt = 2147483646 from h7) ?_
        refine w_mv (pc1 := 54) (st1 := [.ref 33]) rfl rfl rfl ?_
        refine w_mv (pc1 := 55) (st1 := [.int 2, .ref 33]) rfl rfl rfl ?_
        refine w_st (pc1 := 58) (st1 := []) (hs1 := mH A B (va_up v6 11 2) a6) (dc1 := 0) (ds1 := 0) (dc2 := dc) (ds2 := ds) rfl rfl rfl rfl rfl ?_
        exact sx_wp.stop rfl rfl rfl (hP 0 _ _ hh)
      ·
        replace hh := hh.1 h7
        refine w_ine_T (pc1 := 59) rfl rfl (show r6.toInt ≠ 2147483646 from h7) ?_
        refine w_mv (pc1 := 61) (st1 := [.int r6]) rfl rfl rfl ?_
        by_cases h8 : 0 ≤ r6.toInt
        ·
          replace hh := hh.1 h8
          refine w_zge_T (pc1 := 70) rfl rfl (show 0 ≤ r6.toInt from h8) ?_
          refine w_mv (pc1 := 72) (st1 := [.int r6]) rfl rfl rfl ?_
          refine w_mv (pc1 := 73) (st1 := [.int 1, .int r6]) rfl rfl rfl ?_
          by_cases h9 : r6.toInt = 1
          ·
            replace hh := hh.1 h9
            refine w_ieq_T (pc1 := 79) rfl rfl (show r6.toInt = 1 from h9) ?_
            refine w_mv (pc1 := 80) (st1 := [.ref 33]) rfl rfl rfl ?_
            refine w_mv (pc1 := 83) (st1 := [.ref 57]) rfl rfl rfl ?_
            refine w_mv (pc1 := 84) (st1 := [.int p1, .ref 57]) rfl rfl rfl ?_
            refine w_mv (pc1 := 85) (st1 := [.int 0, .int p1, .ref 57]) rfl rfl rfl ?_
            obtain ⟨o10a, o10b, hh⟩ := hh
            refine w_ast (x := 57) (t := 2) (n := 61) (f := (a6 30)) (ty := .boolean) (nw := vp_nar .boolean) (pc1 := 86) (hs1 := mH A B v6 (va_up a6 30 (upd (a6 30) p1.toNatClampNeg 0))) rfl rfl rfl rfl rfl rfl o10a o10b rfl mst_30 ?_
            refine w_mv (pc1 := 87) (st1 := [.ref 33]) rfl rfl rfl ?_
            refine w_mv (pc1 := 90) (st1 := [.ref 46]) rfl rfl rfl ?_
            refine w_mv (pc1 := 91) (st1 := [.int p1, .ref 46]) rfl rfl rfl ?_
            obtain ⟨o11a, o11b, hh⟩ := hh
            refine w_ald (x := 46) (t := 0) (A := (61, .inl (a6 19))) (v := .int ((a6 19) p1.toNatClampNeg)) (pc1 := 92) rfl rfl rfl rfl rfl o11a o11b rfl rfl ?_
            refine w_mv (pc1 := 94) (lv1 := [(5, .int ((a6 19) p1.toNatClampNeg)), (4, .int r6), (0, .ref 33), (1, .int p1), (2, .int p2), (3, .int p3)]) (st1 := []) rfl rfl rfl ?_
            refine w_mv (pc1 := 95) (st1 := [.ref 33]) rfl rfl rfl ?_
            refine w_mv (pc1 := 96) (st1 := [.int p3, .ref 33]) rfl rfl rfl ?_
            refine w_mv (pc1 := 98) (st1 := [.int 48, .int p3, .ref 33]) rfl rfl rfl ?_
            refine w_mv (pc1 := 99) (st1 := [.int (p3 * 48), .ref 33]) rfl rfl rfl ?_
            refine w_call (M' := sM_122) (vals := [.ref 33, .int (p3 * 48)]) (rest := []) (lv' := [(0, .ref 33), (1, .int (p3 * 48))]) rfl rfl rfl rfl rfl rfl rfl rfl rfl rfl ?_
            refine hh A B _ dc ds _ (fun r12 v12 a12 hh => ?_)
            show s_kont _ _ _ _ _ _ _ (.inl none) (mH A B v12 a12) dc ds
            refine w_kv (pc1 := 102) rfl ?_
            refine w_mv (pc1 := 103) (st1 := [.ref 33]) rfl rfl rfl ?_
            refine w_mv (pc1 := 104) (st1 := [.ref 33, .ref 33]) rfl rfl rfl ?_
            refine w_mv (pc1 := 107) (st1 := [.int (v12 12), .ref 33]) rfl rfl rfl ?_
            refine w_mv (pc1 := 108) (st1 := [.int 1, .int (v12 12), .ref 33]) rfl rfl rfl ?_
            refine w_mv (pc1 := 109) (st1 := [.int (v12 12 + 1), .ref 33]) rfl rfl rfl ?_
            refine w_st (pc1 := 112) (st1 := []) (hs1 := mH A B (va_up v12 12 (v12 12 + 1)) a12) (dc1 := 0) (ds1 := 0) (dc2 := dc) (ds2 := ds) rfl rfl rfl rfl rfl ?_
            refine w_mv (pc1 := 113) (st1 := [.ref 33]) rfl rfl rfl ?_
            refine w_mv (pc1 := 115) (st1 := [.int ((a6 19) p1.toNatClampNeg), .ref 33]) rfl rfl rfl ?_
            refine w_call (M' := sM_123) (vals := [.ref 33, .int ((a6 19) p1.toNatClampNeg)]) (rest := []) (lv' := [(0, .ref 33), (1, .int ((a6 19) p1.toNatClampNeg))]) rfl rfl rfl rfl rfl rfl rfl rfl rfl rfl ?_
            refine hh A B _ dc ds _ (fun r13 v13 a13 hh => ?_)
            show s_kont _ _ _ _ _ _ _ (.inl (some (.int r13))) (mH A B v13 a13) dc ds
            refine w_ki (pc1 := 118) rfl ?_
            refine w_mv (pc1 := 120) (lv1 := [(6, .int r13), (5, .int ((a6 19) p1.toNatClampNeg)), (4, .int r6), (0, .ref 33), (1, .int p1), (2, .int p2), (3, .int p3)]) (st1 := []) rfl rfl rfl ?_
            exact sx_wp.stop rfl rfl rfl (hP 0 _ _ hh)
          ·
            replace hh := hh.2 h9
            refine w_ieq_F (pc1 := 76) rfl (by decide) rfl (show r6.toInt ≠ 1 from h9) ?_
            refine w_mv (pc1 := 121) (st1 := []) rfl rfl rfl ?_
            refine w_mv (pc1 := 124) (lv1 := [(3, .int (p3 + 1)), (4, .int r6), (0, .ref 33), (1, .int p1), (2, .int p2)]) (st1 := []) rfl rfl rfl ?_
            refine w_mv (pc1 := 18) (st1 := []) rfl rfl rfl ?_
            refine w_wk (l1 := [(0, .ref 33), (1, .int p1), (2, .int p2), (3, .int (p3 + 1))]) rfl ⟨rfl, rfl, rfl, rfl, trivial⟩ ?_
            exact hh A B d dc ds P hP
        ·
          replace hh := hh.2 (Int.not_le.mp h8)
          refine w_zge_F (pc1 := 64) rfl (by decide) rfl (show r6.toInt < 0 from (Int.not_le.mp h8)) ?_
          refine w_mv (pc1 := 65) (st1 := [.ref 33]) rfl rfl rfl ?_
          refine w_mv (pc1 := 67) (st1 := [.int r6, .ref 33]) rfl rfl rfl ?_
          refine w_call (M' := sM_148) (vals := [.ref 33, .int r6]) (rest := []) (lv' := [(0, .ref 33), (1, .int r6)]) rfl rfl rfl rfl rfl rfl rfl rfl rfl rfl ?_
          refine hh A B _ dc ds _ (fun r14 v14 a14 hh => ?_)
          show s_kont _ _ _ _ _ _ _ (.inl none) (mH A B v14 a14) dc ds
          refine w_kv (pc1 := 70) rfl ?_
          refine w_mv (pc1 := 72) (st1 := [.int r6]) rfl rfl rfl ?_
          refine w_mv (pc1 := 73) (st1 := [.int 1, .int r6]) rfl rfl rfl ?_
          by_cases h15 : r6.toInt = 1
          ·
            replace hh := hh.1 h15
            refine w_ieq_T (pc1 := 79) rfl rfl (show r6.toInt = 1 from h15) ?_
            refine w_mv (pc1 := 80) (st1 := [.ref 33]) rfl rfl rfl ?_
            refine w_mv (pc1 := 83) (st1 := [.ref 57]) rfl rfl rfl ?_
            refine w_mv (pc1 := 84) (st1 := [.int p1, .ref 57]) rfl rfl rfl ?_
            refine w_mv (pc1 := 85) (st1 := [.int 0, .int p1, .ref 57]) rfl rfl rfl ?_
            obtain ⟨o16a, o16b, hh⟩ := hh
            refine w_ast (x := 57) (t := 2) (n := 61) (f := (a14 30)) (ty := .boolean) (nw := vp_nar .boolean) (pc1 := 86) (hs1 := mH A B v14 (va_up a14 30 (upd (a14 30) p1.toNatClampNeg 0))) rfl rfl rfl rfl rfl rfl o16a o16b rfl mst_30 ?_
            refine w_mv (pc1 := 87) (st1 := [.ref 33]) rfl rfl rfl ?_
            refine w_mv (pc1 := 90) (st1 := [.ref 46]) rfl rfl rfl ?_
            refine w_mv (pc1 := 91) (st1 := [.int p1, .ref 46]) rfl rfl rfl ?_
            obtain ⟨o17a, o17b, hh⟩ := hh
            refine w_ald (x := 46) (t := 0) (A := (61, .inl (a14 19))) (v := .int ((a14 19) p1.toNatClampNeg)) (pc1 := 92) rfl rfl rfl rfl rfl o17a o17b rfl rfl ?_
            refine w_mv (pc1 := 94) (lv1 := [(5, .int ((a14 19) p1.toNatClampNeg)), (4, .int r6), (0, .ref 33), (1, .int p1), (2, .int p2), (3, .int p3)]) (st1 := []) rfl rfl rfl ?_
            refine w_mv (pc1 := 95) (st1 := [.ref 33]) rfl rfl rfl ?_
            refine w_mv (pc1 := 96) (st1 := [.int p3, .ref 33]) rfl rfl rfl ?_
            refine w_mv (pc1 := 98) (st1 := [.int 48, .int p3, .ref 33]) rfl rfl rfl ?_
            refine w_mv (pc1 := 99) (st1 := [.int (p3 * 48), .ref 33]) rfl rfl rfl ?_
            refine w_call (M' := sM_122) (vals := [.ref 33, .int (p3 * 48)]) (rest := []) (lv' := [(0, .ref 33), (1, .int (p3 * 48))]) rfl rfl rfl rfl rfl rfl rfl rfl rfl rfl ?_
            refine hh A B _ dc ds _ (fun r18 v18 a18 hh => ?_)
            show s_kont _ _ _ _ _ _ _ (.inl none) (mH A B v18 a18) dc ds
            refine w_kv (pc1 := 102) rfl ?_
            refine w_mv (pc1 := 103) (st1 := [.ref 33]) rfl rfl rfl ?_
            refine w_mv (pc1 := 104) (st1 := [.ref 33, .ref 33]) rfl rfl rfl ?_
            refine w_mv (pc1 := 107) (st1 := [.int (v18 12), .ref 33]) rfl rfl rfl ?_
            refine w_mv (pc1 := 108) (st1 := [.int 1, .int (v18 12), .ref 33]) rfl rfl rfl ?_
            refine w_mv (pc1 := 109) (st1 := [.int (v18 12 + 1), .ref 33]) rfl rfl rfl ?_
            refine w_st (pc1 := 112) (st1 := []) (hs1 := mH A B (va_up v18 12 (v18 12 + 1)) a18) (dc1 := 0) (ds1 := 0) (dc2 := dc) (ds2 := ds) rfl rfl rfl rfl rfl ?_
            refine w_mv (pc1 := 113) (st1 := [.ref 33]) rfl rfl rfl ?_
            refine w_mv (pc1 := 115) (st1 := [.int ((a14 19) p1.toNatClampNeg), .ref 33]) rfl rfl rfl ?_
            refine w_call (M' := sM_123) (vals := [.ref 33, .int ((a14 19) p1.toNatClampNeg)]) (rest := []) (lv' := [(0, .ref 33), (1, .int ((a14 19) p1.toNatClampNeg))]) rfl rfl rfl rfl rfl rfl rfl rfl rfl rfl ?_
            refine hh A B _ dc ds _ (fun r19 v19 a19 hh => ?_)
            show s_kont _ _ _ _ _ _ _ (.inl (some (.int r19))) (mH A B v19 a19) dc ds
            refine w_ki (pc1 := 118) rfl ?_
            refine w_mv (pc1 := 120) (lv1 := [(6, .int r19), (5, .int ((a14 19) p1.toNatClampNeg)), (4, .int r6), (0, .ref 33), (1, .int p1), (2, .int p2), (3, .int p3)]) (st1 := []) rfl rfl rfl ?_
            exact sx_wp.stop rfl rfl rfl (hP 0 _ _ hh)
          ·
            replace hh := hh.2 h15
            refine w_ieq_F (pc1 := 76) rfl (by decide) rfl (show r6.toInt ≠ 1 from h15) ?_
            refine w_mv (pc1 := 121) (st1 := []) rfl rfl rfl ?_
            refine w_mv (pc1 := 124) (lv1 := [(3, .int (p3 + 1)), (4, .int r6), (0, .ref 33), (1, .int p1), (2, .int p2)]) (st1 := []) rfl rfl rfl ?_
            refine w_mv (pc1 := 18) (st1 := []) rfl rfl rfl ?_
            refine w_wk (l1 := [(0, .ref 33), (1, .int p1), (2, .int p2), (3, .int (p3 + 1))]) rfl ⟨rfl, rfl, rfl, rfl, trivial⟩ ?_
            exact hh A B d dc ds P hP
set_option maxRecDepth 20000 in
set_option maxHeartbeats 4000000 in
theorem r_136_0 {p1 : Int32} {v : Nat → Int32} {a : Nat → Nat → Int32} {K : Int32 → (Nat → Int32) → (Nat → Nat → Int32) → Prop} (hh : mT 0 sM_136 2 [(0, .ref 33), (1, .int p1), (2, .int p1)] [] v a K) : mT 0 sM_136 0 [(0, .ref 33), (1, .int p1)] [] v a K := by
  intro A B d dc ds P hP
  refine w_mv (pc1 := 1) (st1 := [.int p1]) rfl rfl rfl ?_
  refine w_mv (pc1 := 2) (lv1 := [(2, .int p1), (0, .ref 33), (1, .int p1)]) (st1 := []) rfl rfl rfl ?_
  refine w_wk (l1 := [(0, .ref 33), (1, .int p1), (2, .int p1)]) rfl ⟨rfl, rfl, rfl, trivial⟩ ?_
  exact hh A B d dc ds P hP
set_option maxRecDepth 20000 in
set_option maxHeartbeats 4000000 in
theorem r_136_2 {p1 : Int32} {p2 : Int32} {v : Nat → Int32} {a : Nat → Nat → Int32} {K : Int32 → (Nat → Int32) → (Nat → Nat → Int32) → Prop} (hh : ((0 ≤ p2.toInt → K p2 v a) ∧ (p2.toInt < 0 → 0 ≤ ((-1) - p2).toInt ∧ ((-1) - p2).toInt < 12000 ∧ ((((a 17) ((-1) - p2).toNatClampNeg).toInt = 2147483647 → K p2 v a) ∧ (((a 17) ((-1) - p2).toNatClampNeg).toInt ≠ 2147483647 → 0 ≤ ((-1) - p2).toInt ∧ ((-1) - p2).toInt < 12000 ∧ mT 0 sM_136 2 [(0, .ref 33), (1, .int p1), (2, .int ((a 17) ((-1) - p2).toNatClampNeg))] [] v a K))))) : mT 0 sM_136 2 [(0, .ref 33), (1, .int p1), (2, .int p2)] [] v a K := by
  intro A B d dc ds P hP
  refine w_mv (pc1 := 3) (st1 := [.int p2]) rfl rfl rfl ?_
  by_cases h1 : 0 ≤ p2.toInt
  ·
    replace hh := hh.1 h1
    refine w_zge_T (pc1 := 31) rfl rfl (show 0 ≤ p2.toInt from h1) ?_
    refine w_mv (pc1 := 32) (st1 := [.int p2]) rfl rfl rfl ?_
    exact sx_wp.stop rfl rfl rfl (hP p2 _ _ hh)
  ·
    replace hh := hh.2 (Int.not_le.mp h1)
    refine w_zge_F (pc1 := 6) rfl (by decide) rfl (show p2.toInt < 0 from (Int.not_le.mp h1)) ?_
    refine w_mv (pc1 := 7) (st1 := [.ref 33]) rfl rfl rfl ?_
    refine w_mv (pc1 := 10) (st1 := [.ref 44]) rfl rfl rfl ?_
    refine w_mv (pc1 := 11) (st1 := [.int (-1), .ref 44]) rfl rfl rfl ?_
    refine w_mv (pc1 := 12) (st1 := [.int p2, .int (-1), .ref 44]) rfl rfl rfl ?_
    refine w_mv (pc1 := 13) (st1 := [.int ((-1) - p2), .ref 44]) rfl rfl rfl ?_
    obtain ⟨o2a, o2b, hh⟩ := hh
    refine w_ald (x := 44) (t := 0) (A := (12000, .inl (a 17))) (v := .int ((a 17) ((-1) - p2).toNatClampNeg)) (pc1 := 14) rfl rfl rfl rfl rfl o2a o2b rfl rfl ?_
    refine w_mv (pc1 := 16) (st1 := [.int 2147483647, .int ((a 17) ((-1) - p2).toNatClampNeg)]) rfl rfl rfl ?_
    by_cases h3 : ((a 17) ((-1) - p2).toNatClampNeg).toInt = 2147483647
    ·
      replace hh := hh.1 h3
      refine w_ieq_T (pc1 := 31) rfl rfl (show ((a 17) ((-1) - p2).toNatClampNeg).toInt = 2147483647 from h3) ?_
      refine w_mv (pc1 := 32) (st1 := [.int p2]) rfl rfl rfl ?_
      exact sx_wp.stop rfl rfl rfl (hP p2 _ _ hh)
    ·
      replace hh := hh.2 h3
      refine w_ieq_F (pc1 := 19) rfl (by decide) rfl (show ((a 17) ((-1) - p2).toNatClampNeg).toInt ≠ 2147483647 from h3) ?_
      refine w_mv (pc1 := 20) (st1 := [.ref 33]) rfl rfl rfl ?_
      refine w_mv (pc1 := 23) (st1 := [.ref 44]) rfl rfl rfl ?_
      refine w_mv (pc1 := 24) (st1 := [.int (-1), .ref 44]) rfl rfl rfl ?_
      refine w_mv (pc1 := 25) (st1 := [.int p2, .int (-1), .ref 44]) rfl rfl rfl ?_
      refine w_mv (pc1 := 26) (st1 := [.int ((-1) - p2), .ref 44]) rfl rfl rfl ?_
      obtain ⟨o4a, o4b, hh⟩ := hh
      refine w_ald (x := 44) (t := 0) (A := (12000, .inl (a 17))) (v := .int ((a 17) ((-1) - p2).toNatClampNeg)) (pc1 := 27) rfl rfl rfl rfl rfl o4a o4b rfl rfl ?_
      refine w_mv (pc1 := 28) (lv1 := [(2, .int ((a 17) ((-1) - p2).toNatClampNeg)), (0, .ref 33), (1, .int p1)]) (st1 := []) rfl rfl rfl ?_
      refine w_mv (pc1 := 2) (st1 := []) rfl rfl rfl ?_
      refine w_wk (l1 := [(0, .ref 33), (1, .int p1), (2, .int ((a 17) ((-1) - p2).toNatClampNeg))]) rfl ⟨rfl, rfl, rfl, trivial⟩ ?_
      exact hh A B d dc ds P hP
set_option maxRecDepth 20000 in
set_option maxHeartbeats 4000000 in
theorem r_137_0 {p1 : Int32} {p2 : Int32} {v : Nat → Int32} {a : Nat → Nat → Int32} {K : Int32 → (Nat → Int32) → (Nat → Nat → Int32) → Prop} (hh : 0 ≤ (p1 * 48).toInt ∧ (p1 * 48).toInt < 624 ∧ 0 ≤ p2.toInt ∧ p2.toInt < 26000 ∧ ((((a 1) (p1 * 48).toNatClampNeg).toInt = ((a 14) p2.toNatClampNeg).toInt → mT 0 sM_137 28 [(0, .ref 33), (1, .int p1), (2, .int p2), (3, .int 0), (4, .int 0), (5, .int 1)] [] v a K) ∧ (((a 1) (p1 * 48).toNatClampNeg).toInt ≠ ((a 14) p2.toNatClampNeg).toInt → K 0 v a))) : mT 0 sM_137 0 [(0, .ref 33), (1, .int p1), (2, .int p2)] [] v a K := by
  intro A B d dc ds P hP
  refine w_mv (pc1 := 1) (st1 := [.ref 33]) rfl rfl rfl ?_
  refine w_mv (pc1 := 4) (st1 := [.ref 35]) rfl rfl rfl ?_
  refine w_mv (pc1 := 5) (st1 := [.int p1, .ref 35]) rfl rfl rfl ?_
  refine w_mv (pc1 := 7) (st1 := [.int 48, .int p1, .ref 35]) rfl rfl rfl ?_
  refine w_mv (pc1 := 8) (st1 := [.int (p1 * 48), .ref 35]) rfl rfl rfl ?_
  obtain ⟨o1a, o1b, hh⟩ := hh
  refine w_ald (x := 35) (t := 0) (A := (624, .inl (a 1))) (v := .int ((a 1) (p1 * 48).toNatClampNeg)) (pc1 := 9) rfl rfl rfl rfl rfl o1a o1b rfl rfl ?_
  refine w_mv (pc1 := 10) (st1 := [.ref 33, .int ((a 1) (p1 * 48).toNatClampNeg)]) rfl rfl rfl ?_
  refine w_mv (pc1 := 13) (st1 := [.ref 41, .int ((a 1) (p1 * 48).toNatClampNeg)]) rfl rfl rfl ?_
  refine w_mv (pc1 := 14) (st1 := [.int p2, .ref 41, .int ((a 1) (p1 * 48).toNatClampNeg)]) rfl rfl rfl ?_
  obtain ⟨o2a, o2b, hh⟩ := hh
  refine w_ald (x := 41) (t := 0) (A := (26000, .inl (a 14))) (v := .int ((a 14) p2.toNatClampNeg)) (pc1 := 15) rfl rfl rfl rfl rfl o2a o2b rfl rfl ?_
  by_cases h3 : ((a 1) (p1 * 48).toNatClampNeg).toInt = ((a 14) p2.toNatClampNeg).toInt
  ·
    replace hh := hh.1 h3
    refine w_ieq_T (pc1 := 20) rfl rfl (show ((a 1) (p1 * 48).toNatClampNeg).toInt = ((a 14) p2.toNatClampNeg).toInt from h3) ?_
    refine w_mv (pc1 := 21) (st1 := [.int 0]) rfl rfl rfl ?_
    refine w_mv (pc1 := 22) (lv1 := [(3, .int 0), (0, .ref 33), (1, .int p1), (2, .int p2)]) (st1 := []) rfl rfl rfl ?_
    refine w_mv (pc1 := 23) (st1 := [.int 0]) rfl rfl rfl ?_
    refine w_mv (pc1 := 25) (lv1 := [(4, .int 0), (3, .int 0), (0, .ref 33), (1, .int p1), (2, .int p2)]) (st1 := []) rfl rfl rfl ?_
    refine w_mv (pc1 := 26) (st1 := [.int 1]) rfl rfl rfl ?_
    refine w_mv (pc1 := 28) (lv1 := [(5, .int 1), (4, .int 0), (3, .int 0), (0, .ref 33), (1, .int p1), (2, .int p2)]) (st1 := []) rfl rfl rfl ?_
    refine w_wk (l1 := [(0, .ref 33), (1, .int p1), (2, .int p2), (3, .int 0), (4, .int 0), (5, .int 1)]) rfl ⟨rfl, rfl, rfl, rfl, rfl, rfl, trivial⟩ ?_
    exact hh A B d dc ds P hP
  ·
    replace hh := hh.2 h3
    refine w_ieq_F (pc1 := 18) rfl (by decide) rfl (show ((a 1) (p1 * 48).toNatClampNeg).toInt ≠ ((a 14) p2.toNatClampNeg).toInt from h3) ?_
    refine w_mv (pc1 := 19) (st1 := [.int 0]) rfl rfl rfl ?_
    exact sx_wp.stop rfl rfl rfl (hP 0 _ _ hh)
set_option maxRecDepth 20000 in
set_option maxHeartbeats 4000000 in
theorem r_137_28 {p1 : Int32} {p2 : Int32} {p3 : Int32} {p4 : Int32} {p5 : Int32} {v : Nat → Int32} {a : Nat → Nat → Int32} {K : Int32 → (Nat → Int32) → (Nat → Nat → Int32) → Prop} (hh : 0 ≤ p1.toInt ∧ p1.toInt < 12 ∧ ((((a 2) p1.toNatClampNeg).toInt ≤ p5.toInt → 0 ≤ p2.toInt ∧ p2.toInt < 26000 ∧ ((p4.toInt ≠ ((a 15) p2.toNatClampNeg).toInt → K 0 v a) ∧ (p4.toInt = ((a 15) p2.toNatClampNeg).toInt → K 1 v a))) ∧ (p5.toInt < ((a 2) p1.toNatClampNeg).toInt → 0 ≤ ((p1 * 48) + p5).toInt ∧ ((p1 * 48) + p5).toInt < 624 ∧ ((p5.toInt ≠ 1 → ((((a 1) ((p1 * 48) + p5).toNatClampNeg).toInt ≠ 40 → mT 0 sM_137 79 [(0, .ref 33), (1, .int p1), (2, .int p2), (3, .int p3), (4, .int p4), (5, .int p5), (6, .int ((a 1) ((p1 * 48) + p5).toNatClampNeg))] [] v a K) ∧ (((a 1) ((p1 * 48) + p5).toNatClampNeg).toInt = 40 → mT 0 sM_137 79 [(0, .ref 33), (1, .int p1), (2, .int p2), (3, .int (p3 + 1)), (4, .int p4), (5, .int p5), (6, .int ((a 1) ((p1 * 48) + p5).toNatClampNeg))] [] v a K))) ∧ (p5.toInt = 1 → ((((a 1) ((p1 * 48) + p5).toNatClampNeg).toInt = 40 → ((((a 1) ((p1 * 48) + p5).toNatClampNeg).toInt ≠ 40 → mT 0 sM_137 79 [(0, .ref 33), (1, .int p1), (2, .int p2), (3, .int p3), (4, .int p4), (5, .int p5), (6, .int ((a 1) ((p1 * 48) + p5).toNatClampNeg))] [] v a K) ∧ (((a 1) ((p1 * 48) + p5).toNatClampNeg).toInt = 40 → mT 0 sM_137 79 [(0, .ref 33), (1, .int p1), (2, .int p2), (3, .int (p3 + 1)), (4, .int p4), (5, .int p5), (6, .int ((a 1) ((p1 * 48) + p5).toNatClampNeg))] [] v a K))) ∧ (((a 1) ((p1 * 48) + p5).toNatClampNeg).toInt ≠ 40 → 0 ≤ p2.toInt ∧ p2.toInt < 26000 ∧ ((p4.toInt ≠ ((a 15) p2.toNatClampNeg).toInt → K 0 v a) ∧ (p4.toInt = ((a 15) p2.toNatClampNeg).toInt → K 1 v a))))))))) : mT 0 sM_137 28 [(0, .ref 33), (1, .int p1), (2, .int p2), (3, .int p3), (4, .int p4), (5, .int p5)] [] v a K := by
  intro A B d dc ds P hP
  refine w_mv (pc1 := 30) (st1 := [.int p5]) rfl rfl rfl ?_
  refine w_mv (pc1 := 31) (st1 := [.ref 33, .int p5]) rfl rfl rfl ?_
  refine w_mv (pc1 := 34) (st1 := [.ref 36, .int p5]) rfl rfl rfl ?_
  refine w_mv (pc1 := 35) (st1 := [.int p1, .ref 36, .int p5]) rfl rfl rfl ?_
  obtain ⟨o1a, o1b, hh⟩ := hh
  refine w_ald (x := 36) (t := 0) (A := (12, .inl (a 2))) (v := .int ((a 2) p1.toNatClampNeg)) (pc1 := 36) rfl rfl rfl rfl rfl o1a o1b rfl rfl ?_
  by_cases h2 : ((a 2) p1.toNatClampNeg).toInt ≤ p5.toInt
  ·
    replace hh := hh.1 h2
    refine w_ige_T (pc1 := 129) rfl rfl (show ((a 2) p1.toNatClampNeg).toInt ≤ p5.toInt from h2) ?_
    refine w_mv (pc1 := 131) (st1 := [.int p4]) rfl rfl rfl ?_
    refine w_mv (pc1 := 132) (st1 := [.ref 33, .int p4]) rfl rfl rfl ?_
    refine w_mv (pc1 := 135) (st1 := [.ref 42, .int p4]) rfl rfl rfl ?_
    refine w_mv (pc1 := 136) (st1 := [.int p2, .ref 42, .int p4]) rfl rfl rfl ?_
    obtain ⟨o3a, o3b, hh⟩ := hh
    refine w_ald (x := 42) (t := 0) (A := (26000, .inl (a 15))) (v := .int ((a 15) p2.toNatClampNeg)) (pc1 := 137) rfl rfl rfl rfl rfl o3a o3b rfl rfl ?_
    by_cases h4 : p4.toInt = ((a 15) p2.toNatClampNeg).toInt
    ·
      replace hh := hh.2 h4
      refine w_ine_F (pc1 := 140) rfl (by decide) rfl (show p4.toInt = ((a 15) p2.toNatClampNeg).toInt from h4) ?_
      refine w_mv (pc1 := 141) (st1 := [.int 1]) rfl rfl rfl ?_
      refine w_mv (pc1 := 145) (st1 := [.int 1]) rfl rfl rfl ?_
      exact sx_wp.stop rfl rfl rfl (hP 1 _ _ hh)
    ·
      replace hh := hh.1 h4
      refine w_ine_T (pc1 := 144) rfl rfl (show p4.toInt ≠ ((a 15) p2.toNatClampNeg).toInt from h4) ?_
      refine w_mv (pc1 := 145) (st1 := [.int 0]) rfl rfl rfl ?_
      exact sx_wp.stop rfl rfl rfl (hP 0 _ _ hh)
  ·
    replace hh := hh.2 (Int.not_le.mp h2)
    refine w_ige_F (pc1 := 39) rfl (by decide) rfl (show p5.toInt < ((a 2) p1.toNatClampNeg).toInt from (Int.not_le.mp h2)) ?_
    refine w_mv (pc1 := 40) (st1 := [.ref 33]) rfl rfl rfl ?_
    refine w_mv (pc1 := 43) (st1 := [.ref 35]) rfl rfl rfl ?_
    refine w_mv (pc1 := 44) (st1 := [.int p1, .ref 35]) rfl rfl rfl ?_
    refine w_mv (pc1 := 46) (st1 := [.int 48, .int p1, .ref 35]) rfl rfl rfl ?_
    refine w_mv (pc1 := 47) (st1 := [.int (p1 * 48), .ref 35]) rfl rfl rfl ?_
    refine w_mv (pc1 := 49) (st1 := [.int p5, .int (p1 * 48), .ref 35]) rfl rfl rfl ?_
    refine w_mv (pc1 := 50) (st1 := [.int ((p1 * 48) + p5), .ref 35]) rfl rfl rfl ?_
    obtain ⟨o5a, o5b, hh⟩ := hh
    refine w_ald (x := 35) (t := 0) (A := (624, .inl (a 1))) (v := .int ((a 1) ((p1 * 48) + p5).toNatClampNeg)) (pc1 := 51) rfl rfl rfl rfl rfl o5a o5b rfl rfl ?_
    refine w_mv (pc1 := 53) (lv1 := [(6, .int ((a 1) ((p1 * 48) + p5).toNatClampNeg)), (0, .ref 33), (1, .int p1), (2, .int p2), (3, .int p3), (4, .int p4), (5, .int p5)]) (st1 := []) rfl rfl rfl ?_
    refine w_mv (pc1 := 55) (st1 := [.int p5]) rfl rfl rfl ?_
    refine w_mv (pc1 := 56) (st1 := [.int 1, .int p5]) rfl rfl rfl ?_
    by_cases h6 : p5.toInt = 1
    ·
      replace hh := hh.2 h6
      refine w_ine_F (pc1 := 59) rfl (by decide) rfl (show p5.toInt = 1 from h6) ?_
      refine w_mv (pc1 := 61) (st1 := [.int ((a 1) ((p1 * 48) + p5).toNatClampNeg)]) rfl rfl rfl ?_
      refine w_mv (pc1 := 63) (st1 := [.int 40, .int ((a 1) ((p1 * 48) + p5).toNatClampNeg)]) rfl rfl rfl ?_
      by_cases h7 : ((a 1) ((p1 * 48) + p5).toNatClampNeg).toInt = 40
      ·
        replace hh := hh.1 h7
        refine w_ieq_T (pc1 := 69) rfl rfl (show ((a 1) ((p1 * 48) + p5).toNatClampNeg).toInt = 40 from h7) ?_
        refine w_mv (pc1 := 71) (st1 := [.int ((a 1) ((p1 * 48) + p5).toNatClampNeg)]) rfl rfl rfl ?_
        refine w_mv (pc1 := 73) (st1 := [.int 40, .int ((a 1) ((p1 * 48) + p5).toNatClampNeg)]) rfl rfl rfl ?_
        by_cases h8 : ((a 1) ((p1 * 48) + p5).toNatClampNeg).toInt = 40
        ·
          replace hh := hh.2 h8
          refine w_ine_F (pc1 := 76) rfl (by decide) rfl (show ((a 1) ((p1 * 48) + p5).toNatClampNeg).toInt = 40 from h8) ?_
          refine w_mv (pc1 := 79) (lv1 := [(3, .int (p3 + 1)), (6, .int ((a 1) ((p1 * 48) + p5).toNatClampNeg)), (0, .ref 33), (1, .int p1), (2, .int p2), (4, .int p4), (5, .int p5)]) (st1 := []) rfl rfl rfl ?_
          refine w_wk (l1 := [(0, .ref 33), (1, .int p1), (2, .int p2), (3, .int (p3 + 1)), (4, .int p4), (5, .int p5), (6, .int ((a 1) ((p1 * 48) + p5).toNatClampNeg))]) rfl ⟨rfl, rfl, rfl, rfl, rfl, rfl, rfl, trivial⟩ ?_
          exact hh A B d dc ds P hP
        ·
          replace hh := hh.1 h8
          refine w_ine_T (pc1 := 79) rfl rfl (show ((a 1) ((p1 * 48) + p5).toNatClampNeg).toInt ≠ 40 from h8) ?_
          refine w_wk (l1 := [(0, .ref 33), (1, .int p1), (2, .int p2), (3, .int p3), (4, .int p4), (5, .int p5), (6, .int ((a 1) ((p1 * 48) + p5).toNatClampNeg))]) rfl ⟨rfl, rfl, rfl, rfl, rfl, rfl, rfl, trivial⟩ ?_
          exact hh A B d dc ds P hP
      ·
        replace hh := hh.2 h7
        refine w_ieq_F (pc1 := 66) rfl (by decide) rfl (show ((a 1) ((p1 * 48) + p5).toNatClampNeg).toInt ≠ 40 from h7) ?_
        refine w_mv (pc1 := 129) (st1 := []) rfl rfl rfl ?_
        refine w_mv (pc1 := 131) (st1 := [.int p4]) rfl rfl rfl ?_
        refine w_mv (pc1 := 132) (st1 := [.ref 33, .int p4]) rfl rfl rfl ?_
        refine w_mv (pc1 := 135) (st1 := [.ref 42, .int p4]) rfl rfl rfl ?_
        refine w_mv (pc1 := 136) (st1 := [.int p2, .ref 42, .int p4]) rfl rfl rfl ?_
        obtain ⟨o9a, o9b, hh⟩ := hh
        refine w_ald (x := 42) (t := 0) (A := (26000, .inl (a 15))) (v := .int ((a 15) p2.toNatClampNeg)) (pc1 := 137) rfl rfl rfl rfl rfl o9a o9b rfl rfl ?_
        by_cases h10 : p4.toInt = ((a 15) p2.toNatClampNeg).toInt
        ·
          replace hh := hh.2 h10
          refine w_ine_F (pc1 := 140) rfl (by decide) rfl (show p4.toInt = ((a 15) p2.toNatClampNeg).toInt from h10) ?_
          refine w_mv (pc1 := 141) (st1 := [.int 1]) rfl rfl rfl ?_
          refine w_mv (pc1 := 145) (st1 := [.int 1]) rfl rfl rfl ?_
          exact sx_wp.stop rfl rfl rfl (hP 1 _ _ hh)
        ·
          replace hh := hh.1 h10
          refine w_ine_T (pc1 := 144) rfl rfl (show p4.toInt ≠ ((a 15) p2.toNatClampNeg).toInt from h10) ?_
          refine w_mv (pc1 := 145) (st1 := [.int 0]) rfl rfl rfl ?_
          exact sx_wp.stop rfl rfl rfl (hP 0 _ _ hh)
    ·
      replace hh := hh.1 h6
      refine w_ine_T (pc1 := 69) rfl rfl (show p5.toInt ≠ 1 from h6) ?_
      refine w_mv (pc1 := 71) (st1 := [.int ((a 1) ((p1 * 48) + p5).toNatClampNeg)]) rfl rfl rfl ?_
      refine w_mv (pc1 := 73) (st1 := [.int 40, .int ((a 1) ((p1 * 48) + p5).toNatClampNeg)]) rfl rfl rfl ?_
      by_cases h11 : ((a 1) ((p1 * 48) + p5).toNatClampNeg).toInt = 40
      ·
        replace hh := hh.2 h11
        refine w_ine_F (pc1 := 76) rfl (by decide) rfl (show ((a 1) ((p1 * 48) + p5).toNatClampNeg).toInt = 40 from h11) ?_
        refine w_mv (pc1 := 79) (lv1 := [(3, .int (p3 + 1)), (6, .int ((a 1) ((p1 * 48) + p5).toNatClampNeg)), (0, .ref 33), (1, .int p1), (2, .int p2), (4, .int p4), (5, .int p5)]) (st1 := []) rfl rfl rfl ?_
        refine w_wk (l1 := [(0, .ref 33), (1, .int p1), (2, .int p2), (3, .int (p3 + 1)), (4, .int p4), (5, .int p5), (6, .int ((a 1) ((p1 * 48) + p5).toNatClampNeg))]) rfl ⟨rfl, rfl, rfl, rfl, rfl, rfl, rfl, trivial⟩ ?_
        exact hh A B d dc ds P hP
      ·
        replace hh := hh.1 h11
        refine w_ine_T (pc1 := 79) rfl rfl (show ((a 1) ((p1 * 48) + p5).toNatClampNeg).toInt ≠ 40 from h11) ?_
        refine w_wk (l1 := [(0, .ref 33), (1, .int p1), (2, .int p2), (3, .int p3), (4, .int p4), (5, .int p5), (6, .int ((a 1) ((p1 * 48) + p5).toNatClampNeg))]) rfl ⟨rfl, rfl, rfl, rfl, rfl, rfl, rfl, trivial⟩ ?_
        exact hh A B d dc ds P hP
set_option maxRecDepth 20000 in
set_option maxHeartbeats 4000000 in
theorem r_137_79 {p1 : Int32} {p2 : Int32} {p3 : Int32} {p4 : Int32} {p5 : Int32} {p6 : Int32} {v : Nat → Int32} {a : Nat → Nat → Int32} {K : Int32 → (Nat → Int32) → (Nat → Nat → Int32) → Prop} (hh : ((p6.toInt ≠ 40 → ((p6.toInt ≠ 44 → mT 0 sM_137 106 [(0, .ref 33), (1, .int p1), (2, .int p2), (3, .int p3), (4, .int p4), (5, .int p5), (6, .int p6)] [] v a K) ∧ (p6.toInt = 44 → ((p3.toInt ≠ 1 → mT 0 sM_137 106 [(0, .ref 33), (1, .int p1), (2, .int p2), (3, .int p3), (4, .int p4), (5, .int p5), (6, .int p6)] [] v a K) ∧ (p3.toInt = 1 → mT 0 sM_137 106 [(0, .ref 33), (1, .int p1), (2, .int p2), (3, .int p3), (4, .int (p4 + 1)), (5, .int p5), (6, .int p6)] [] v a K))))) ∧ (p6.toInt = 40 → ((p3.toInt = 1 → mT 0 sM_137 106 [(0, .ref 33), (1, .int p1), (2, .int p2), (3, .int p3), (4, .int (p4 + 1)), (5, .int p5), (6, .int p6)] [] v a K) ∧ (p3.toInt ≠ 1 → ((p6.toInt ≠ 44 → mT 0 sM_137 106 [(0, .ref 33), (1, .int p1), (2, .int p2), (3, .int p3), (4, .int p4), (5, .int p5), (6, .int p6)] [] v a K) ∧ (p6.toInt = 44 → ((p3.toInt ≠ 1 → mT 0 sM_137 106 [(0, .ref 33), (1, .int p1), (2, .int p2), (3, .int p3), (4, .int p4), (5, .int p5), (6, .int p6)] [] v a K) ∧ (p3.toInt = 1 → mT 0 sM_137 106 [(0, .ref 33), (1, .int p1), (2, .int p2), (3, .int p3), (4, .int (p4 + 1)), (5, .int p5), (6, .int p6)] [] v a K))))))))) : mT 0 sM_137 79 [(0, .ref 33), (1, .int p1), (2, .int p2), (3, .int p3), (4, .int p4), (5, .int p5), (6, .int p6)] [] v a K := by
  intro A B d dc ds P hP
  refine w_mv (pc1 := 81) (st1 := [.int p6]) rfl rfl rfl ?_
  refine w_mv (pc1 := 83) (st1 := [.int 40, .int p6]) rfl rfl rfl ?_
  by_cases h1 : p6.toInt = 40
  ·
    replace hh := hh.2 h1
    refine w_ine_F (pc1 := 86) rfl (by decide) rfl (show p6.toInt = 40 from h1) ?_
    refine w_mv (pc1 := 87) (st1 := [.int p3]) rfl rfl rfl ?_
    refine w_mv (pc1 := 88) (st1 := [.int 1, .int p3]) rfl rfl rfl ?_
    by_cases h2 : p3.toInt = 1
    ·
      replace hh := hh.1 h2
      refine w_ieq_T (pc1 := 103) rfl rfl (show p3.toInt = 1 from h2) ?_
      refine w_mv (pc1 := 106) (lv1 := [(4, .int (p4 + 1)), (0, .ref 33), (1, .int p1), (2, .int p2), (3, .int p3), (5, .int p5), (6, .int p6)]) (st1 := []) rfl rfl rfl ?_
      refine w_wk (l1 := [(0, .ref 33), (1, .int p1), (2, .int p2), (3, .int p3), (4, .int (p4 + 1)), (5, .int p5), (6, .int p6)]) rfl ⟨rfl, rfl, rfl, rfl, rfl, rfl, rfl, trivial⟩ ?_
      exact hh A B d dc ds P hP
    ·
      replace hh := hh.2 h2
      refine w_ieq_F (pc1 := 91) rfl (by decide) rfl (show p3.toInt ≠ 1 from h2) ?_
      refine w_mv (pc1 := 93) (st1 := [.int p6]) rfl rfl rfl ?_
      refine w_mv (pc1 := 95) (st1 := [.int 44, .int p6]) rfl rfl rfl ?_
      by_cases h3 : p6.toInt = 44
      ·
        replace hh := hh.2 h3
        refine w_ine_F (pc1 := 98) rfl (by decide) rfl (show p6.toInt = 44 from h3) ?_
        refine w_mv (pc1 := 99) (st1 := [.int p3]) rfl rfl rfl ?_
        refine w_mv (pc1 := 100) (st1 := [.int 1, .int p3]) rfl rfl rfl ?_
        by_cases h4 : p3.toInt = 1
        ·
          replace hh := hh.2 h4
          refine w_ine_F (pc1 := 103) rfl (by decide) rfl (show p3.toInt = 1 from h4) ?_
          refine w_mv (pc1 := 106) (lv1 := [(4, .int (p4 + 1)), (0, .ref 33), (1, .int p1), (2, .int p2), (3, .int p3), (5, .int p5), (6, .int p6)]) (st1 := []) rfl rfl rfl ?_
          refine w_wk (l1 := [(0, .ref 33), (1, .int p1), (2, .int p2), (3, .int p3), (4, .int (p4 + 1)), (5, .int p5), (6, .int p6)]) rfl ⟨rfl, rfl, rfl, rfl, rfl, rfl, rfl, trivial⟩ ?_
          exact hh A B d dc ds P hP
        ·
          replace hh := hh.1 h4
          refine w_ine_T (pc1 := 106) rfl rfl (show p3.toInt ≠ 1 from h4) ?_
          refine w_wk (l1 := [(0, .ref 33), (1, .int p1), (2, .int p2), (3, .int p3), (4, .int p4), (5, .int p5), (6, .int p6)]) rfl ⟨rfl, rfl, rfl, rfl, rfl, rfl, rfl, trivial⟩ ?_
          exact hh A B d dc ds P hP
      ·
        replace hh := hh.1 h3
        refine w_ine_T (pc1 := 106) rfl rfl (show p6.toInt ≠ 44 from h3) ?_
        refine w_wk (l1 := [(0, .ref 33), (1, .int p1), (2, .int p2), (3, .int p3), (4, .int p4), (5, .int p5), (6, .int p6)]) rfl ⟨rfl, rfl, rfl, rfl, rfl, rfl, rfl, trivial⟩ ?_
        exact hh A B d dc ds P hP
  ·
    replace hh := hh.1 h1
    refine w_ine_T (pc1 := 91) rfl rfl (show p6.toInt ≠ 40 from h1) ?_
    refine w_mv (pc1 := 93) (st1 := [.int p6]) rfl rfl rfl ?_
    refine w_mv (pc1 := 95) (st1 := [.int 44, .int p6]) rfl rfl rfl ?_
    by_cases h5 : p6.toInt = 44
    ·
      replace hh := hh.2 h5
      refine w_ine_F (pc1 := 98) rfl (by decide) rfl (show p6.toInt = 44 from h5) ?_
      refine w_mv (pc1 := 99) (st1 := [.int p3]) rfl rfl rfl ?_
      refine w_mv (pc1 := 100) (st1 := [.int 1, .int p3]) rfl rfl rfl ?_
      by_cases h6 : p3.toInt = 1
      ·
        replace hh := hh.2 h6
        refine w_ine_F (pc1 := 103) rfl (by decide) rfl (show p3.toInt = 1 from h6) ?_
        refine w_mv (pc1 := 106) (lv1 := [(4, .int (p4 + 1)), (0, .ref 33), (1, .int p1), (2, .int p2), (3, .int p3), (5, .int p5), (6, .int p6)]) (st1 := []) rfl rfl rfl ?_
        refine w_wk (l1 := [(0, .ref 33), (1, .int p1), (2, .int p2), (3, .int p3), (4, .int (p4 + 1)), (5, .int p5), (6, .int p6)]) rfl ⟨rfl, rfl, rfl, rfl, rfl, rfl, rfl, trivial⟩ ?_
        exact hh A B d dc ds P hP
      ·
        replace hh := hh.1 h6
        refine w_ine_T (pc1 := 106) rfl rfl (show p3.toInt ≠ 1 from h6) ?_
        refine w_wk (l1 := [(0, .ref 33), (1, .int p1), (2, .int p2), (3, .int p3), (4, .int p4), (5, .int p5), (6, .int p6)]) rfl ⟨rfl, rfl, rfl, rfl, rfl, rfl, rfl, trivial⟩ ?_
        exact hh A B d dc ds P hP
    ·
      replace hh := hh.1 h5
      refine w_ine_T (pc1 := 106) rfl rfl (show p6.toInt ≠ 44 from h5) ?_
      refine w_wk (l1 := [(0, .ref 33), (1, .int p1), (2, .int p2), (3, .int p3), (4, .int p4), (5, .int p5), (6, .int p6)]) rfl ⟨rfl, rfl, rfl, rfl, rfl, rfl, rfl, trivial⟩ ?_
      exact hh A B d dc ds P hP
set_option maxRecDepth 20000 in
set_option maxHeartbeats 4000000 in
theorem r_137_106 {p1 : Int32} {p2 : Int32} {p3 : Int32} {p4 : Int32} {p5 : Int32} {p6 : Int32} {v : Nat → Int32} {a : Nat → Nat → Int32} {K : Int32 → (Nat → Int32) → (Nat → Nat → Int32) → Prop} (hh : ((p6.toInt ≠ 41 → ((p3.toInt ≠ 0 → mT 0 sM_137 28 [(0, .ref 33), (1, .int p1), (2, .int p2), (3, .int p3), (4, .int p4), (5, .int (p5 + 1))] [] v a K) ∧ (p3.toInt = 0 → 0 ≤ p2.toInt ∧ p2.toInt < 26000 ∧ ((p4.toInt ≠ ((a 15) p2.toNatClampNeg).toInt → K 0 v a) ∧ (p4.toInt = ((a 15) p2.toNatClampNeg).toInt → K 1 v a))))) ∧ (p6.toInt = 41 → (((p3 + (-1)).toInt ≠ 0 → mT 0 sM_137 28 [(0, .ref 33), (1, .int p1), (2, .int p2), (3, .int (p3 + (-1))), (4, .int p4), (5, .int (p5 + 1))] [] v a K) ∧ ((p3 + (-1)).toInt = 0 → 0 ≤ p2.toInt ∧ p2.toInt < 26000 ∧ ((p4.toInt ≠ ((a 15) p2.toNatClampNeg).toInt → K 0 v a) ∧ (p4.toInt = ((a 15) p2.toNatClampNeg).toInt → K 1 v a))))))) : mT 0 sM_137 106 [(0, .ref 33), (1, .int p1), (2, .int p2), (3, .int p3), (4, .int p4), (5, .int p5), (6, .int p6)] [] v a K := by
  intro A B d dc ds P hP
  refine w_mv (pc1 := 108) (st1 := [.int p6]) rfl rfl rfl ?_
  refine w_mv (pc1 := 110) (st1 := [.int 41, .int p6]) rfl rfl rfl ?_
  by_cases h1 : p6.toInt = 41
  ·
    replace hh := hh.2 h1
    refine w_ine_F (pc1 := 113) rfl (by decide) rfl (show p6.toInt = 41 from h1) ?_
    refine w_mv (pc1 := 116) (lv1 := [(3, .int (p3 + (-1))), (0, .ref 33), (1, .int p1), (2, .int p2), (4, .int p4), (5, .int p5), (6, .int p6)]) (st1 := []) rfl rfl rfl ?_
    refine w_mv (pc1 := 117) (st1 := [.int (p3 + (-1))]) rfl rfl rfl ?_
    by_cases h2 : (p3 + (-1)).toInt = 0
    ·
      replace hh := hh.2 h2
      refine w_zne_F (pc1 := 120) rfl (by decide) rfl (show (p3 + (-1)).toInt = 0 from h2) ?_
      refine w_mv (pc1 := 129) (st1 := []) rfl rfl rfl ?_
      refine w_mv (pc1 := 131) (st1 := [.int p4]) rfl rfl rfl ?_
      refine w_mv (pc1 := 132) (st1 := [.ref 33, .int p4]) rfl rfl rfl ?_
      refine w_mv (pc1 := 135) (st1 := [.ref 42, .int p4]) rfl rfl rfl ?_
      refine w_mv (pc1 := 136) (st1 := [.int p2, .ref 42, .int p4]) rfl rfl rfl ?_
      obtain ⟨o3a, o3b, hh⟩ := hh
      refine w_ald (x := 42) (t := 0) (A := (26000, .inl (a 15))) (v := .int ((a 15) p2.toNatClampNeg)) (pc1 := 137) rfl rfl rfl rfl rfl o3a o3b rfl rfl ?_
      by_cases h4 : p4.toInt = ((a 15) p2.toNatClampNeg).toInt
      ·
        replace hh := hh.2 h4
        refine w_ine_F (pc1 := 140) rfl (by decide) rfl (show p4.toInt = ((a 15) p2.toNatClampNeg).toInt from h4) ?_
        refine w_mv (pc1 := 141) (st1 := [.int 1]) rfl rfl rfl ?_
        refine w_mv (pc1 := 145) (st1 := [.int 1]) rfl rfl rfl ?_
        exact sx_wp.stop rfl rfl rfl (hP 1 _ _ hh)
      ·
        replace hh := hh.1 h4
        refine w_ine_T (pc1 := 144) rfl rfl (show p4.toInt ≠ ((a 15) p2.toNatClampNeg).toInt from h4) ?_
        refine w_mv (pc1 := 145) (st1 := [.int 0]) rfl rfl rfl ?_
        exact sx_wp.stop rfl rfl rfl (hP 0 _ _ hh)
    ·
      replace hh := hh.1 h2
      refine w_zne_T (pc1 := 123) rfl rfl (show (p3 + (-1)).toInt ≠ 0 from h2) ?_
      refine w_mv (pc1 := 126) (lv1 := [(5, .int (p5 + 1)), (3, .int (p3 + (-1))), (0, .ref 33), (1, .int p1), (2, .int p2), (4, .int p4), (6, .int p6)]) (st1 := []) rfl rfl rfl ?_
      refine w_mv (pc1 := 28) (st1 := []) rfl rfl rfl ?_
      refine w_wk (l1 := [(0, .ref 33), (1, .int p1), (2, .int p2), (3, .int (p3 + (-1))), (4, .int p4), (5, .int (p5 + 1))]) rfl ⟨rfl, rfl, rfl, rfl, rfl, rfl, trivial⟩ ?_
      exact hh A B d dc ds P hP
  ·
    replace hh := hh.1 h1
    refine w_ine_T (pc1 := 116) rfl rfl (show p6.toInt ≠ 41 from h1) ?_
    refine w_mv (pc1 := 117) (st1 := [.int p3]) rfl rfl rfl ?_
    by_cases h5 : p3.toInt = 0
    ·
      replace hh := hh.2 h5
      refine w_zne_F (pc1 := 120) rfl (by decide) rfl (show p3.toInt = 0 from h5) ?_
      refine w_mv (pc1 := 129) (st1 := []) rfl rfl rfl ?_
      refine w_mv (pc1 := 131) (st1 := [.int p4]) rfl rfl rfl ?_
      refine w_mv (pc1 := 132) (st1 := [.ref 33, .int p4]) rfl rfl rfl ?_
      refine w_mv (pc1 := 135) (st1 := [.ref 42, .int p4]) rfl rfl rfl ?_
      refine w_mv (pc1 := 136) (st1 := [.int p2, .ref 42, .int p4]) rfl rfl rfl ?_
      obtain ⟨o6a, o6b, hh⟩ := hh
      refine w_ald (x := 42) (t := 0) (A := (26000, .inl (a 15))) (v := .int ((a 15) p2.toNatClampNeg)) (pc1 := 137) rfl rfl rfl rfl rfl o6a o6b rfl rfl ?_
      by_cases h7 : p4.toInt = ((a 15) p2.toNatClampNeg).toInt
      ·
        replace hh := hh.2 h7
        refine w_ine_F (pc1 := 140) rfl (by decide) rfl (show p4.toInt = ((a 15) p2.toNatClampNeg).toInt from h7) ?_
        refine w_mv (pc1 := 141) (st1 := [.int 1]) rfl rfl rfl ?_
        refine w_mv (pc1 := 145) (st1 := [.int 1]) rfl rfl rfl ?_
        exact sx_wp.stop rfl rfl rfl (hP 1 _ _ hh)
      ·
        replace hh := hh.1 h7
        refine w_ine_T (pc1 := 144) rfl rfl (show p4.toInt ≠ ((a 15) p2.toNatClampNeg).toInt from h7) ?_
        refine w_mv (pc1 := 145) (st1 := [.int 0]) rfl rfl rfl ?_
        exact sx_wp.stop rfl rfl rfl (hP 0 _ _ hh)
    ·
      replace hh := hh.1 h5
      refine w_zne_T (pc1 := 123) rfl rfl (show p3.toInt ≠ 0 from h5) ?_
      refine w_mv (pc1 := 126) (lv1 := [(5, .int (p5 + 1)), (0, .ref 33), (1, .int p1), (2, .int p2), (3, .int p3), (4, .int p4), (6, .int p6)]) (st1 := []) rfl rfl rfl ?_
      refine w_mv (pc1 := 28) (st1 := []) rfl rfl rfl ?_
      refine w_wk (l1 := [(0, .ref 33), (1, .int p1), (2, .int p2), (3, .int p3), (4, .int p4), (5, .int (p5 + 1))]) rfl ⟨rfl, rfl, rfl, rfl, rfl, rfl, trivial⟩ ?_
      exact hh A B d dc ds P hP
set_option maxRecDepth 20000 in
set_option maxHeartbeats 4000000 in
theorem r_138_0 {p1 : Int32} {p2 : Int32} {v : Nat → Int32} {a : Nat → Nat → Int32} {K : Int32 → (Nat → Int32) → (Nat → Nat → Int32) → Prop} (hh : 0 ≤ p1.toInt ∧ p1.toInt < 12 ∧ mT 5 sM_138 25 [(0, .ref 33), (1, .int p1), (2, .int p2), (3, .int 0)] [] (va_up (va_up v 12 (p1 * 48)) 13 ((p1 * 48) + ((a 2) p1.toNatClampNeg))) a K) : mT 5 sM_138 0 [(0, .ref 33), (1, .int p1), (2, .int p2)] [] v a K := by
  intro A B d dc ds P hP
  refine w_mv (pc1 := 1) (st1 := [.ref 33]) rfl rfl rfl ?_
  refine w_mv (pc1 := 2) (st1 := [.int p1, .ref 33]) rfl rfl rfl ?_
  refine w_mv (pc1 := 4) (st1 := [.int 48, .int p1, .ref 33]) rfl rfl rfl ?_
  refine w_mv (pc1 := 5) (st1 := [.int (p1 * 48), .ref 33]) rfl rfl rfl ?_
  refine w_st (pc1 := 8) (st1 := []) (hs1 := mH A B (va_up v 12 (p1 * 48)) a) (dc1 := 0) (ds1 := 0) (dc2 := dc) (ds2 := ds) rfl rfl rfl rfl rfl ?_
  refine w_mv (pc1 := 9) (st1 := [.ref 33]) rfl rfl rfl ?_
  refine w_mv (pc1 := 10) (st1 := [.ref 33, .ref 33]) rfl rfl rfl ?_
  refine w_mv (pc1 := 13) (st1 := [.int (p1 * 48), .ref 33]) rfl rfl rfl ?_
  refine w_mv (pc1 := 14) (st1 := [.ref 33, .int (p1 * 48), .ref 33]) rfl rfl rfl ?_
  refine w_mv (pc1 := 17) (st1 := [.ref 36, .int (p1 * 48), .ref 33]) rfl rfl rfl ?_
  refine w_mv (pc1 := 18) (st1 := [.int p1, .ref 36, .int (p1 * 48), .ref 33]) rfl rfl rfl ?_
  obtain ⟨o1a, o1b, hh⟩ := hh
  refine w_ald (x := 36) (t := 0) (A := (12, .inl (a 2))) (v := .int ((a 2) p1.toNatClampNeg)) (pc1 := 19) rfl rfl rfl rfl rfl o1a o1b rfl rfl ?_
  refine w_mv (pc1 := 20) (st1 := [.int ((p1 * 48) + ((a 2) p1.toNatClampNeg)), .ref 33]) rfl rfl rfl ?_
  refine w_st (pc1 := 23) (st1 := []) (hs1 := mH A B (va_up (va_up v 12 (p1 * 48)) 13 ((p1 * 48) + ((a 2) p1.toNatClampNeg))) a) (dc1 := 0) (ds1 := 0) (dc2 := dc) (ds2 := ds) rfl rfl rfl rfl rfl ?_
  refine w_mv (pc1 := 24) (st1 := [.int 0]) rfl rfl rfl ?_
  refine w_mv (pc1 := 25) (lv1 := [(3, .int 0), (0, .ref 33), (1, .int p1), (2, .int p2)]) (st1 := []) rfl rfl rfl ?_
  refine w_wk (l1 := [(0, .ref 33), (1, .int p1), (2, .int p2), (3, .int 0)]) rfl ⟨rfl, rfl, rfl, rfl, trivial⟩ ?_
  exact hh A B d dc ds P hP
set_option maxRecDepth 20000 in
set_option maxHeartbeats 4000000 in
theorem r_138_25 {p1 : Int32} {p2 : Int32} {p3 : Int32} {v : Nat → Int32} {a : Nat → Nat → Int32} {K : Int32 → (Nat → Int32) → (Nat → Nat → Int32) → Prop} (hh : ((26 ≤ p3.toInt → mT 4 sM_139 0 [(0, .ref 33), (1, .int p2)] [] v a (fun r2 v2 a2 => ((r2.toInt ≠ 1 → K r2 v2 a2) ∧ (r2.toInt = 1 → 0 ≤ (v2 12).toInt ∧ (v2 13).toInt ≤ 624 ∧ (((m_at v2 a2 (v2 12)).toInt = 58 → mT 5 sM_138 71 [(0, .ref 33), (1, .int p1), (2, .int p2), (3, .int r2)] [] v2 a2 K) ∧ ((m_at v2 a2 (v2 12)).toInt ≠ 58 → K r2 v2 a2)))))) ∧ (p3.toInt < 26 → 0 ≤ p3.toInt ∧ p3.toInt < 26 ∧ mT 5 sM_138 25 [(0, .ref 33), (1, .int p1), (2, .int p2), (3, .int (p3 + 1))] [] v (va_up a 5 (upd (a 5) p3.toNatClampNeg 2147483647)) K))) : mT 5 sM_138 25 [(0, .ref 33), (1, .int p1), (2, .int p2), (3, .int p3)] [] v a K := by
  intro A B d dc ds P hP
  refine w_mv (pc1 := 26) (st1 := [.int p3]) rfl rfl rfl ?_
  refine w_mv (pc1 := 28) (st1 := [.int 26, .int p3]) rfl rfl rfl ?_
  by_cases h1 : 26 ≤ p3.toInt
  ·
    replace hh := hh.1 h1
    refine w_ige_T (pc1 := 45) rfl rfl (show 26 ≤ p3.toInt from h1) ?_
    refine w_mv (pc1 := 46) (st1 := [.ref 33]) rfl rfl rfl ?_
    refine w_mv (pc1 := 47) (st1 := [.int p2, .ref 33]) rfl rfl rfl ?_
    refine w_call (M' := sM_139) (vals := [.ref 33, .int p2]) (rest := []) (lv' := [(0, .ref 33), (1, .int p2)]) rfl rfl rfl rfl rfl rfl rfl rfl rfl rfl ?_
    refine hh A B _ dc ds _ (fun r2 v2 a2 hh => ?_)
    show s_kont _ _ _ _ _ _ _ (.inl (some (.int r2))) (mH A B v2 a2) dc ds
    refine w_ki (pc1 := 50) rfl ?_
    refine w_mv (pc1 := 51) (lv1 := [(3, .int r2), (0, .ref 33), (1, .int p1), (2, .int p2)]) (st1 := []) rfl rfl rfl ?_
    refine w_mv (pc1 := 52) (st1 := [.int r2]) rfl rfl rfl ?_
    refine w_mv (pc1 := 53) (st1 := [.int 1, .int r2]) rfl rfl rfl ?_
    by_cases h3 : r2.toInt = 1
    ·
      replace hh := hh.2 h3
      refine w_ine_F (pc1 := 56) rfl (by decide) rfl (show r2.toInt = 1 from h3) ?_
      refine w_mv (pc1 := 57) (st1 := [.ref 33]) rfl rfl rfl ?_
      refine w_mv (pc1 := 58) (st1 := [.ref 33, .ref 33]) rfl rfl rfl ?_
      refine w_mv (pc1 := 61) (st1 := [.int (v2 12), .ref 33]) rfl rfl rfl ?_
      refine w_call (M' := sM_125) (vals := [.ref 33, .int (v2 12)]) (rest := []) (lv' := [(0, .ref 33), (1, .int (v2 12))]) rfl rfl rfl rfl rfl rfl rfl rfl rfl rfl ?_
      obtain ⟨o4a, o4b, hh⟩ := hh
      refine m_at_ o4a o4b ?_
      refine w_ki (pc1 := 64) rfl ?_
      refine w_mv (pc1 := 66) (st1 := [.int 58, .int (m_at v2 a2 (v2 12))]) rfl rfl rfl ?_
      by_cases h5 : (m_at v2 a2 (v2 12)).toInt = 58
      ·
        replace hh := hh.1 h5
        refine w_ieq_T (pc1 := 71) rfl rfl (show (m_at v2 a2 (v2 12)).toInt = 58 from h5) ?_
        refine w_wk (l1 := [(0, .ref 33), (1, .int p1), (2, .int p2), (3, .int r2)]) rfl ⟨rfl, rfl, rfl, rfl, trivial⟩ ?_
        exact hh A B d dc ds P hP
      ·
        replace hh := hh.2 h5
        refine w_ieq_F (pc1 := 69) rfl (by decide) rfl (show (m_at v2 a2 (v2 12)).toInt ≠ 58 from h5) ?_
        refine w_mv (pc1 := 70) (st1 := [.int r2]) rfl rfl rfl ?_
        exact sx_wp.stop rfl rfl rfl (hP r2 _ _ hh)
    ·
      replace hh := hh.1 h3
      refine w_ine_T (pc1 := 69) rfl rfl (show r2.toInt ≠ 1 from h3) ?_
      refine w_mv (pc1 := 70) (st1 := [.int r2]) rfl rfl rfl ?_
      exact sx_wp.stop rfl rfl rfl (hP r2 _ _ hh)
  ·
    replace hh := hh.2 (Int.not_le.mp h1)
    refine w_ige_F (pc1 := 31) rfl (by decide) rfl (show p3.toInt < 26 from (Int.not_le.mp h1)) ?_
    refine w_mv (pc1 := 32) (st1 := [.ref 33]) rfl rfl rfl ?_
    refine w_mv (pc1 := 35) (st1 := [.ref 39]) rfl rfl rfl ?_
    refine w_mv (pc1 := 36) (st1 := [.int p3, .ref 39]) rfl rfl rfl ?_
    refine w_mv (pc1 := 38) (st1 := [.int 2147483647, .int p3, .ref 39]) rfl rfl rfl ?_
    obtain ⟨o6a, o6b, hh⟩ := hh
    refine w_ast (x := 39) (t := 0) (n := 26) (f := (a 5)) (ty := .int) (nw := fun x => x) (pc1 := 39) (hs1 := mH A B v (va_up a 5 (upd (a 5) p3.toNatClampNeg 2147483647))) rfl rfl rfl rfl rfl rfl o6a o6b rfl mst_5 ?_
    refine w_mv (pc1 := 42) (lv1 := [(3, .int (p3 + 1)), (0, .ref 33), (1, .int p1), (2, .int p2)]) (st1 := []) rfl rfl rfl ?_
    refine w_mv (pc1 := 25) (st1 := []) rfl rfl rfl ?_
    refine w_wk (l1 := [(0, .ref 33), (1, .int p1), (2, .int p2), (3, .int (p3 + 1))]) rfl ⟨rfl, rfl, rfl, rfl, trivial⟩ ?_
    exact hh A B d dc ds P hP
set_option maxRecDepth 20000 in
set_option maxHeartbeats 4000000 in
theorem r_138_71 {p1 : Int32} {p2 : Int32} {p3 : Int32} {v : Nat → Int32} {a : Nat → Nat → Int32} {K : Int32 → (Nat → Int32) → (Nat → Nat → Int32) → Prop} (hh : mT 4 sM_146 0 [(0, .ref 33)] [] (va_up v 12 (v 12 + 1)) a (fun r1 v1 a1 => ((r1.toInt ≠ 1 → K r1 (va_up v1 37 (v 37)) a1) ∧ (r1.toInt = 1 → 0 ≤ (v1 12).toInt ∧ (v1 13).toInt ≤ 624 ∧ (((m_at (va_up v1 37 (v 37)) a1 (v1 12)).toInt = 44 → mT 5 sM_138 71 [(0, .ref 33), (1, .int p1), (2, .int p2), (3, .int r1)] [] (va_up v1 37 (v 37)) a1 K) ∧ ((m_at (va_up v1 37 (v 37)) a1 (v1 12)).toInt ≠ 44 → K r1 (va_up v1 37 (v 37)) a1)))))) : mT 5 sM_138 71 [(0, .ref 33), (1, .int p1), (2, .int p2), (3, .int p3)] [] v a K := by
  intro A B d dc ds P hP
  refine w_mv (pc1 := 72) (st1 := [.ref 33]) rfl rfl rfl ?_
  refine w_mv (pc1 := 73) (st1 := [.ref 33, .ref 33]) rfl rfl rfl ?_
  refine w_mv (pc1 := 76) (st1 := [.int (v 12), .ref 33]) rfl rfl rfl ?_
  refine w_mv (pc1 := 77) (st1 := [.int 1, .int (v 12), .ref 33]) rfl rfl rfl ?_
  refine w_mv (pc1 := 78) (st1 := [.int (v 12 + 1), .ref 33]) rfl rfl rfl ?_
  refine w_st (pc1 := 81) (st1 := []) (hs1 := mH A B (va_up v 12 (v 12 + 1)) a) (dc1 := 0) (ds1 := 0) (dc2 := dc) (ds2 := ds) rfl rfl rfl rfl rfl ?_
  refine w_mv (pc1 := 82) (st1 := [.ref 33]) rfl rfl rfl ?_
  refine w_mv (pc1 := 85) (st1 := [.int (v 37)]) rfl rfl rfl ?_
  refine w_mv (pc1 := 87) (lv1 := [(4, .int (v 37)), (0, .ref 33), (1, .int p1), (2, .int p2), (3, .int p3)]) (st1 := []) rfl rfl rfl ?_
  refine w_mv (pc1 := 88) (st1 := [.ref 33]) rfl rfl rfl ?_
  refine w_call (M' := sM_146) (vals := [.ref 33]) (rest := []) (lv' := [(0, .ref 33)]) rfl rfl rfl rfl rfl rfl rfl rfl rfl rfl ?_
  refine hh A B _ dc ds _ (fun r1 v1 a1 hh => ?_)
  show s_kont _ _ _ _ _ _ _ (.inl (some (.int r1))) (mH A B v1 a1) dc ds
  refine w_ki (pc1 := 91) rfl ?_
  refine w_mv (pc1 := 92) (lv1 := [(3, .int r1), (4, .int (v 37)), (0, .ref 33), (1, .int p1), (2, .int p2)]) (st1 := []) rfl rfl rfl ?_
  refine w_mv (pc1 := 93) (st1 := [.ref 33]) rfl rfl rfl ?_
  refine w_mv (pc1 := 95) (st1 := [.int (v 37), .ref 33]) rfl rfl rfl ?_
  refine w_st (pc1 := 98) (st1 := []) (hs1 := mH A B (va_up v1 37 (v 37)) a1) (dc1 := 0) (ds1 := 0) (dc2 := dc) (ds2 := ds) rfl rfl rfl rfl rfl ?_
  refine w_mv (pc1 := 99) (st1 := [.int r1]) rfl rfl rfl ?_
  refine w_mv (pc1 := 100) (st1 := [.int 1, .int r1]) rfl rfl rfl ?_
  by_cases h2 : r1.toInt = 1
  ·
    replace hh := hh.2 h2
    refine w_ine_F (pc1 := 103) rfl (by decide) rfl (show r1.toInt = 1 from h2) ?_
    refine w_mv (pc1 := 104) (st1 := [.ref 33]) rfl rfl rfl ?_
    refine w_mv (pc1 := 105) (st1 := [.ref 33, .ref 33]) rfl rfl rfl ?_
    refine w_mv (pc1 := 108) (st1 := [.int (v1 12), .ref 33]) rfl rfl rfl ?_
    refine w_call (M' := sM_125) (vals := [.ref 33, .int (v1 12)]) (rest := []) (lv' := [(0, .ref 33), (1, .int (v1 12))]) rfl rfl rfl rfl rfl rfl rfl rfl rfl rfl ?_
    obtain ⟨o3a, o3b, hh⟩ := hh
    refine m_at_ o3a o3b ?_
    refine w_ki (pc1 := 111) rfl ?_
    refine w_mv (pc1 := 113) (st1 := [.int 44, .int (m_at (va_up v1 37 (v 37)) a1 (v1 12))]) rfl rfl rfl ?_
    by_cases h4 : (m_at (va_up v1 37 (v 37)) a1 (v1 12)).toInt = 44
    ·
      replace hh := hh.1 h4
      refine w_ieq_T (pc1 := 71) rfl rfl (show (m_at (va_up v1 37 (v 37)) a1 (v1 12)).toInt = 44 from h4) ?_
      refine w_wk (l1 := [(0, .ref 33), (1, .int p1), (2, .int p2), (3, .int r1)]) rfl ⟨rfl, rfl, rfl, rfl, trivial⟩ ?_
      exact hh A B d dc ds P hP
    ·
      replace hh := hh.2 h4
      refine w_ieq_F (pc1 := 116) rfl (by decide) rfl (show (m_at (va_up v1 37 (v 37)) a1 (v1 12)).toInt ≠ 44 from h4) ?_
      refine w_mv (pc1 := 117) (st1 := [.int r1]) rfl rfl rfl ?_
      exact sx_wp.stop rfl rfl rfl (hP r1 _ _ hh)
  ·
    replace hh := hh.1 h2
    refine w_ine_T (pc1 := 116) rfl rfl (show r1.toInt ≠ 1 from h2) ?_
    refine w_mv (pc1 := 117) (st1 := [.int r1]) rfl rfl rfl ?_
    exact sx_wp.stop rfl rfl rfl (hP r1 _ _ hh)
set_option maxRecDepth 20000 in
set_option maxHeartbeats 4000000 in
theorem r_139_0 {p1 : Int32} {v : Nat → Int32} {a : Nat → Nat → Int32} {K : Int32 → (Nat → Int32) → (Nat → Nat → Int32) → Prop} (hh : mT 4 sM_139 4 [(0, .ref 33), (2, .int 0), (3, .int p1)] [] v a K) : mT 4 sM_139 0 [(0, .ref 33), (1, .int p1)] [] v a K := by
  intro A B d dc ds P hP
  refine w_mv (pc1 := 1) (st1 := [.int 0]) rfl rfl rfl ?_
  refine w_mv (pc1 := 2) (lv1 := [(2, .int 0), (0, .ref 33), (1, .int p1)]) (st1 := []) rfl rfl rfl ?_
  refine w_mv (pc1 := 3) (st1 := [.int p1]) rfl rfl rfl ?_
  refine w_mv (pc1 := 4) (lv1 := [(3, .int p1), (2, .int 0), (0, .ref 33), (1, .int p1)]) (st1 := []) rfl rfl rfl ?_
  refine w_wk (l1 := [(0, .ref 33), (2, .int 0), (3, .int p1)]) rfl ⟨rfl, rfl, rfl, trivial⟩ ?_
  exact hh A B d dc ds P hP
set_option maxRecDepth 20000 in
set_option maxHeartbeats 4000000 in
theorem r_139_4 {p2 : Int32} {p3 : Int32} {v : Nat → Int32} {a : Nat → Nat → Int32} {K : Int32 → (Nat → Int32) → (Nat → Nat → Int32) → Prop} (hh : 0 ≤ (v 12).toInt ∧ (v 13).toInt ≤ 624 ∧ ((97 ≤ (m_at v a (v 12)).toInt → (m_at v a (v 12)).toInt ≤ 122 → ((p2.toInt ≠ 0 → mT 3 sM_140 0 [(0, .ref 33), (1, .int p3)] [] v a (fun r4 v4 a4 => ((r4.toInt = 1 → mT 4 sM_139 45 [(0, .ref 33), (2, .int p2), (3, .int p3), (4, .int 1)] [] v4 a4 K) ∧ (r4.toInt ≠ 1 → K r4 v4 a4)))) ∧ (p2.toInt = 0 → mT 4 sM_139 45 [(0, .ref 33), (2, .int p2), (3, .int p3), (4, .int 1)] [] v a K))) ∧ (((m_at v a (v 12)).toInt < 97 ∨ 122 < (m_at v a (v 12)).toInt) → ((p2.toInt ≠ 0 → mT 3 sM_140 0 [(0, .ref 33), (1, .int p3)] [] v a (fun r7 v7 a7 => ((r7.toInt = 1 → mT 4 sM_139 45 [(0, .ref 33), (2, .int p2), (3, .int p3), (4, .int 0)] [] v7 a7 K) ∧ (r7.toInt ≠ 1 → K r7 v7 a7)))) ∧ (p2.toInt = 0 → mT 4 sM_139 45 [(0, .ref 33), (2, .int p2), (3, .int p3), (4, .int 0)] [] v a K))))) : mT 4 sM_139 4 [(0, .ref 33), (2, .int p2), (3, .int p3)] [] v a K := by
  intro A B d dc ds P hP
  refine w_mv (pc1 := 5) (st1 := [.ref 33]) rfl rfl rfl ?_
  refine w_mv (pc1 := 6) (st1 := [.ref 33, .ref 33]) rfl rfl rfl ?_
  refine w_mv (pc1 := 9) (st1 := [.int (v 12), .ref 33]) rfl rfl rfl ?_
  refine w_call (M' := sM_125) (vals := [.ref 33, .int (v 12)]) (rest := []) (lv' := [(0, .ref 33), (1, .int (v 12))]) rfl rfl rfl rfl rfl rfl rfl rfl rfl rfl ?_
  obtain ⟨o1a, o1b, hh⟩ := hh
  refine m_at_ o1a o1b ?_
  refine w_ki (pc1 := 12) rfl ?_
  refine w_mv (pc1 := 14) (st1 := [.int 97, .int (m_at v a (v 12))]) rfl rfl rfl ?_
  refine w_mv (pc1 := 16) (st1 := [.int 122, .int 97, .int (m_at v a (v 12))]) rfl rfl rfl ?_
  refine w_call (M' := sM_111) (vals := [.int (m_at v a (v 12)), .int 97, .int 122]) (rest := []) (lv' := [(0, .int (m_at v a (v 12))), (1, .int 97), (2, .int 122)]) rfl rfl rfl rfl rfl rfl rfl rfl rfl rfl ?_
  refine m_in (fun h2a h2b => ?_) (fun h2c => ?_)
  ·
    replace hh := hh.1 h2a h2b
    refine w_ki (pc1 := 19) rfl ?_
    refine w_mv (pc1 := 21) (lv1 := [(4, .int 1), (0, .ref 33), (2, .int p2), (3, .int p3)]) (st1 := []) rfl rfl rfl ?_
    refine w_mv (pc1 := 22) (st1 := [.int p2]) rfl rfl rfl ?_
    by_cases h3 : p2.toInt = 0
    ·
      replace hh := hh.2 h3
      refine w_zne_F (pc1 := 25) rfl (by decide) rfl (show p2.toInt = 0 from h3) ?_
      refine w_mv (pc1 := 26) (st1 := [.int 1]) rfl rfl rfl ?_
      refine w_mv (pc1 := 34) (st1 := [.int 1]) rfl rfl rfl ?_
      refine w_mv (pc1 := 36) (lv1 := [(5, .int 1), (4, .int 1), (0, .ref 33), (2, .int p2), (3, .int p3)]) (st1 := []) rfl rfl rfl ?_
      refine w_mv (pc1 := 38) (st1 := [.int 1]) rfl rfl rfl ?_
      refine w_mv (pc1 := 39) (st1 := [.int 1, .int 1]) rfl rfl rfl ?_
      refine w_mv (pc1 := 45) (st1 := []) rfl rfl rfl ?_
      refine w_wk (l1 := [(0, .ref 33), (2, .int p2), (3, .int p3), (4, .int 1)]) rfl ⟨rfl, rfl, rfl, rfl, trivial⟩ ?_
      exact hh A B d dc ds P hP
    ·
      replace hh := hh.1 h3
      refine w_zne_T (pc1 := 29) rfl rfl (show p2.toInt ≠ 0 from h3) ?_
      refine w_mv (pc1 := 30) (st1 := [.ref 33]) rfl rfl rfl ?_
      refine w_mv (pc1 := 31) (st1 := [.int p3, .ref 33]) rfl rfl rfl ?_
      refine w_call (M' := sM_140) (vals := [.ref 33, .int p3]) (rest := []) (lv' := [(0, .ref 33), (1, .int p3)]) rfl rfl rfl rfl rfl rfl rfl rfl rfl rfl ?_
      refine hh A B _ dc ds _ (fun r4 v4 a4 hh => ?_)
      show s_kont _ _ _ _ _ _ _ (.inl (some (.int r4))) (mH A B v4 a4) dc ds
      refine w_ki (pc1 := 34) rfl ?_
      refine w_mv (pc1 := 36) (lv1 := [(5, .int r4), (4, .int 1), (0, .ref 33), (2, .int p2), (3, .int p3)]) (st1 := []) rfl rfl rfl ?_
      refine w_mv (pc1 := 38) (st1 := [.int r4]) rfl rfl rfl ?_
      refine w_mv (pc1 := 39) (st1 := [.int 1, .int r4]) rfl rfl rfl ?_
      by_cases h5 : r4.toInt = 1
      ·
        replace hh := hh.1 h5
        refine w_ieq_T (pc1 := 45) rfl rfl (show r4.toInt = 1 from h5) ?_
        refine w_wk (l1 := [(0, .ref 33), (2, .int p2), (3, .int p3), (4, .int 1)]) rfl ⟨rfl, rfl, rfl, rfl, trivial⟩ ?_
        exact hh A B d dc ds P hP
      ·
        replace hh := hh.2 h5
        refine w_ieq_F (pc1 := 42) rfl (by decide) rfl (show r4.toInt ≠ 1 from h5) ?_
        refine w_mv (pc1 := 44) (st1 := [.int r4]) rfl rfl rfl ?_
        exact sx_wp.stop rfl rfl rfl (hP r4 _ _ hh)
  ·
    replace hh := hh.2 h2c
    refine w_ki (pc1 := 19) rfl ?_
    refine w_mv (pc1 := 21) (lv1 := [(4, .int 0), (0, .ref 33), (2, .int p2), (3, .int p3)]) (st1 := []) rfl rfl rfl ?_
    refine w_mv (pc1 := 22) (st1 := [.int p2]) rfl rfl rfl ?_
    by_cases h6 : p2.toInt = 0
    ·
      replace hh := hh.2 h6
      refine w_zne_F (pc1 := 25) rfl (by decide) rfl (show p2.toInt = 0 from h6) ?_
      refine w_mv (pc1 := 26) (st1 := [.int 1]) rfl rfl rfl ?_
      refine w_mv (pc1 := 34) (st1 := [.int 1]) rfl rfl rfl ?_
      refine w_mv (pc1 := 36) (lv1 := [(5, .int 1), (4, .int 0), (0, .ref 33), (2, .int p2), (3, .int p3)]) (st1 := []) rfl rfl rfl ?_
      refine w_mv (pc1 := 38) (st1 := [.int 1]) rfl rfl rfl ?_
      refine w_mv (pc1 := 39) (st1 := [.int 1, .int 1]) rfl rfl rfl ?_
      refine w_mv (pc1 := 45) (st1 := []) rfl rfl rfl ?_
      refine w_wk (l1 := [(0, .ref 33), (2, .int p2), (3, .int p3), (4, .int 0)]) rfl ⟨rfl, rfl, rfl, rfl, trivial⟩ ?_
      exact hh A B d dc ds P hP
    ·
      replace hh := hh.1 h6
      refine w_zne_T (pc1 := 29) rfl rfl (show p2.toInt ≠ 0 from h6) ?_
      refine w_mv (pc1 := 30) (st1 := [.ref 33]) rfl rfl rfl ?_
      refine w_mv (pc1 := 31) (st1 := [.int p3, .ref 33]) rfl rfl rfl ?_
      refine w_call (M' := sM_140) (vals := [.ref 33, .int p3]) (rest := []) (lv' := [(0, .ref 33), (1, .int p3)]) rfl rfl rfl rfl rfl rfl rfl rfl rfl rfl ?_
      refine hh A B _ dc ds _ (fun r7 v7 a7 hh => ?_)
      show s_kont _ _ _ _ _ _ _ (.inl (some (.int r7))) (mH A B v7 a7) dc ds
      refine w_ki (pc1 := 34) rfl ?_
      refine w_mv (pc1 := 36) (lv1 := [(5, .int r7), (4, .int 0), (0, .ref 33), (2, .int p2), (3, .int p3)]) (st1 := []) rfl rfl rfl ?_
      refine w_mv (pc1 := 38) (st1 := [.int r7]) rfl rfl rfl ?_
      refine w_mv (pc1 := 39) (st1 := [.int 1, .int r7]) rfl rfl rfl ?_
      by_cases h8 : r7.toInt = 1
      ·
        replace hh := hh.1 h8
        refine w_ieq_T (pc1 := 45) rfl rfl (show r7.toInt = 1 from h8) ?_
        refine w_wk (l1 := [(0, .ref 33), (2, .int p2), (3, .int p3), (4, .int 0)]) rfl ⟨rfl, rfl, rfl, rfl, trivial⟩ ?_
        exact hh A B d dc ds P hP
      ·
        replace hh := hh.2 h8
        refine w_ieq_F (pc1 := 42) rfl (by decide) rfl (show r7.toInt ≠ 1 from h8) ?_
        refine w_mv (pc1 := 44) (st1 := [.int r7]) rfl rfl rfl ?_
        exact sx_wp.stop rfl rfl rfl (hP r7 _ _ hh)
set_option maxRecDepth 20000 in
set_option maxHeartbeats 4000000 in
theorem r_139_45 {p2 : Int32} {p3 : Int32} {p4 : Int32} {v : Nat → Int32} {a : Nat → Nat → Int32} {K : Int32 → (Nat → Int32) → (Nat → Nat → Int32) → Prop} (hh : ((p2.toInt ≠ 0 → ((p4.toInt = 0 → mT 4 sM_139 101 [(0, .ref 33), (2, .int p2)] [] v a K) ∧ (p4.toInt ≠ 0 → 0 ≤ (v 12).toInt ∧ (v 13).toInt ≤ 624 ∧ (((m_at v a (v 12)).toInt ≠ 40 → mT 4 sM_139 101 [(0, .ref 33), (2, .int p2)] [] v a K) ∧ ((m_at v a (v 12)).toInt = 40 → mT 0 sM_136 0 [(0, .ref 33), (1, .int p3)] [] v a (fun r11 v11 a11 => 0 ≤ (p2 + 1).toInt ∧ (p2 + 1).toInt < 8 ∧ 0 ≤ (p2 + 1).toInt ∧ (p2 + 1).toInt < 8 ∧ mT 4 sM_139 160 [(0, .ref 33), (2, .int (p2 + 1))] [] (va_up v11 12 (v11 12 + 1)) (va_up (va_up a11 33 (upd (a11 33) (p2 + 1).toNatClampNeg r11)) 34 (upd (a11 34) (p2 + 1).toNatClampNeg 0)) K)))))) ∧ (p2.toInt = 0 → ((p4.toInt = 0 → mT 4 sM_139 101 [(0, .ref 33), (2, .int p2)] [] (va_up v 12 (v 12 + 1)) a K) ∧ (p4.toInt ≠ 0 → 0 ≤ (v 12 + 1).toInt ∧ (v 13).toInt ≤ 624 ∧ (((m_at (va_up v 12 (v 12 + 1)) a (v 12 + 1)).toInt ≠ 40 → mT 4 sM_139 101 [(0, .ref 33), (2, .int p2)] [] (va_up v 12 (v 12 + 1)) a K) ∧ ((m_at (va_up v 12 (v 12 + 1)) a (v 12 + 1)).toInt = 40 → mT 0 sM_136 0 [(0, .ref 33), (1, .int p3)] [] (va_up v 12 (v 12 + 1)) a (fun r5 v5 a5 => 0 ≤ (p2 + 1).toInt ∧ (p2 + 1).toInt < 8 ∧ 0 ≤ (p2 + 1).toInt ∧ (p2 + 1).toInt < 8 ∧ mT 4 sM_139 160 [(0, .ref 33), (2, .int (p2 + 1))] [] (va_up v5 12 (v5 12 + 1)) (va_up (va_up a5 33 (upd (a5 33) (p2 + 1).toNatClampNeg r5)) 34 (upd (a5 34) (p2 + 1).toNatClampNeg 0)) K)))))))) : mT 4 sM_139 45 [(0, .ref 33), (2, .int p2), (3, .int p3), (4, .int p4)] [] v a K := by
  intro A B d dc ds P hP
  refine w_mv (pc1 := 46) (st1 := [.int p2]) rfl rfl rfl ?_
  by_cases h1 : p2.toInt = 0
  ·
    replace hh := hh.2 h1
    refine w_zne_F (pc1 := 49) rfl (by decide) rfl (show p2.toInt = 0 from h1) ?_
    refine w_mv (pc1 := 50) (st1 := [.ref 33]) rfl rfl rfl ?_
    refine w_mv (pc1 := 51) (st1 := [.ref 33, .ref 33]) rfl rfl rfl ?_
    refine w_mv (pc1 := 54) (st1 := [.int (v 12), .ref 33]) rfl rfl rfl ?_
    refine w_mv (pc1 := 55) (st1 := [.int 1, .int (v 12), .ref 33]) rfl rfl rfl ?_
    refine w_mv (pc1 := 56) (st1 := [.int (v 12 + 1), .ref 33]) rfl rfl rfl ?_
    refine w_st (pc1 := 59) (st1 := []) (hs1 := mH A B (va_up v 12 (v 12 + 1)) a) (dc1 := 0) (ds1 := 0) (dc2 := dc) (ds2 := ds) rfl rfl rfl rfl rfl ?_
    refine w_mv (pc1 := 61) (st1 := [.int p4]) rfl rfl rfl ?_
    by_cases h2 : p4.toInt = 0
    ·
      replace hh := hh.1 h2
      refine w_zeq_T (pc1 := 101) rfl rfl (show p4.toInt = 0 from h2) ?_
      refine w_wk (l1 := [(0, .ref 33), (2, .int p2)]) rfl ⟨rfl, rfl, trivial⟩ ?_
      exact hh A B d dc ds P hP
    ·
      replace hh := hh.2 h2
      refine w_zeq_F (pc1 := 64) rfl (by decide) rfl (show p4.toInt ≠ 0 from h2) ?_
      refine w_mv (pc1 := 65) (st1 := [.ref 33]) rfl rfl rfl ?_
      refine w_mv (pc1 := 66) (st1 := [.ref 33, .ref 33]) rfl rfl rfl ?_
      refine w_mv (pc1 := 69) (st1 := [.int (v 12 + 1), .ref 33]) rfl rfl rfl ?_
      refine w_call (M' := sM_125) (vals := [.ref 33, .int (v 12 + 1)]) (rest := []) (lv' := [(0, .ref 33), (1, .int (v 12 + 1))]) rfl rfl rfl rfl rfl rfl rfl rfl rfl rfl ?_
      obtain ⟨o3a, o3b, hh⟩ := hh
      refine m_at_ o3a o3b ?_
      refine w_ki (pc1 := 72) rfl ?_
      refine w_mv (pc1 := 74) (st1 := [.int 40, .int (m_at (va_up v 12 (v 12 + 1)) a (v 12 + 1))]) rfl rfl rfl ?_
      by_cases h4 : (m_at (va_up v 12 (v 12 + 1)) a (v 12 + 1)).toInt = 40
      ·
        replace hh := hh.2 h4
        refine w_ine_F (pc1 := 77) rfl (by decide) rfl (show (m_at (va_up v 12 (v 12 + 1)) a (v 12 + 1)).toInt = 40 from h4) ?_
        refine w_mv (pc1 := 80) (lv1 := [(2, .int (p2 + 1)), (0, .ref 33), (3, .int p3), (4, .int p4)]) (st1 := []) rfl rfl rfl ?_
        refine w_mv (pc1 := 81) (st1 := [.ref 33]) rfl rfl rfl ?_
        refine w_mv (pc1 := 84) (st1 := [.ref 60]) rfl rfl rfl ?_
        refine w_mv (pc1 := 85) (st1 := [.int (p2 + 1), .ref 60]) rfl rfl rfl ?_
        refine w_mv (pc1 := 86) (st1 := [.ref 33, .int (p2 + 1), .ref 60]) rfl rfl rfl ?_
        refine w_mv (pc1 := 87) (st1 := [.int p3, .ref 33, .int (p2 + 1), .ref 60]) rfl rfl rfl ?_
        refine w_call (M' := sM_136) (vals := [.ref 33, .int p3]) (rest := [.int (p2 + 1), .ref 60]) (lv' := [(0, .ref 33), (1, .int p3)]) rfl rfl rfl rfl rfl rfl rfl rfl rfl rfl ?_
        refine hh A B _ dc ds _ (fun r5 v5 a5 hh => ?_)
        show s_kont _ _ _ _ _ _ _ (.inl (some (.int r5))) (mH A B v5 a5) dc ds
        refine w_ki (pc1 := 90) rfl ?_
        obtain ⟨o6a, o6b, hh⟩ := hh
        refine w_ast (x := 60) (t := 0) (n := 8) (f := (a5 33)) (ty := .int) (nw := fun x => x) (pc1 := 91) (hs1 := mH A B v5 (va_up a5 33 (upd (a5 33) (p2 + 1).toNatClampNeg r5))) rfl rfl rfl rfl rfl rfl o6a o6b rfl mst_33 ?_
        refine w_mv (pc1 := 92) (st1 := [.ref 33]) rfl rfl rfl ?_
        refine w_mv (pc1 := 95) (st1 := [.ref 61]) rfl rfl rfl ?_
        refine w_mv (pc1 := 96) (st1 := [.int (p2 + 1), .ref 61]) rfl rfl rfl ?_
        refine w_mv (pc1 := 97) (st1 := [.int 0, .int (p2 + 1), .ref 61]) rfl rfl rfl ?_
        obtain ⟨o7a, o7b, hh⟩ := hh
        refine w_ast (x := 61) (t := 0) (n := 8) (f := (a5 34)) (ty := .int) (nw := fun x => x) (pc1 := 98) (hs1 := mH A B v5 (va_up (va_up a5 33 (upd (a5 33) (p2 + 1).toNatClampNeg r5)) 34 (upd (a5 34) (p2 + 1).toNatClampNeg 0))) rfl rfl rfl rfl rfl rfl o7a o7b rfl mst_34 ?_
        refine w_mv (pc1 := 150) (st1 := []) rfl rfl rfl ?_
        refine w_mv (pc1 := 151) (st1 := [.ref 33]) rfl rfl rfl ?_
        refine w_mv (pc1 := 152) (st1 := [.ref 33, .ref 33]) rfl rfl rfl ?_
        refine w_mv (pc1 := 155) (st1 := [.int (v5 12), .ref 33]) rfl rfl rfl ?_
        refine w_mv (pc1 := 156) (st1 := [.int 1, .int (v5 12), .ref 33]) rfl rfl rfl ?_
        refine w_mv (pc1 := 157) (st1 := [.int (v5 12 + 1), .ref 33]) rfl rfl rfl ?_
        refine w_st (pc1 := 160) (st1 := []) (hs1 := mH A B (va_up v5 12 (v5 12 + 1)) (va_up (va_up a5 33 (upd (a5 33) (p2 + 1).toNatClampNeg r5)) 34 (upd (a5 34) (p2 + 1).toNatClampNeg 0))) (dc1 := 0) (ds1 := 0) (dc2 := dc) (ds2 := ds) rfl rfl rfl rfl rfl ?_
        refine w_wk (l1 := [(0, .ref 33), (2, .int (p2 + 1))]) rfl ⟨rfl, rfl, trivial⟩ ?_
        exact hh A B d dc ds P hP
      ·
        replace hh := hh.1 h4
        refine w_ine_T (pc1 := 101) rfl rfl (show (m_at (va_up v 12 (v 12 + 1)) a (v 12 + 1)).toInt ≠ 40 from h4) ?_
        refine w_wk (l1 := [(0, .ref 33), (2, .int p2)]) rfl ⟨rfl, rfl, trivial⟩ ?_
        exact hh A B d dc ds P hP
  ·
    replace hh := hh.1 h1
    refine w_zne_T (pc1 := 59) rfl rfl (show p2.toInt ≠ 0 from h1) ?_
    refine w_mv (pc1 := 61) (st1 := [.int p4]) rfl rfl rfl ?_
    by_cases h8 : p4.toInt = 0
    ·
      replace hh := hh.1 h8
      refine w_zeq_T (pc1 := 101) rfl rfl (show p4.toInt = 0 from h8) ?_
      refine w_wk (l1 := [(0, .ref 33), (2, .int p2)]) rfl ⟨rfl, rfl, trivial⟩ ?_
      exact hh A B d dc ds P hP
    ·
      replace hh := hh.2 h8
      refine w_zeq_F (pc1 := 64) rfl (by decide) rfl (show p4.toInt ≠ 0 from h8) ?_
      refine w_mv (pc1 := 65) (st1 := [.ref 33]) rfl rfl rfl ?_
      refine w_mv (pc1 := 66) (st1 := [.ref 33, .ref 33]) rfl rfl rfl ?_
      refine w_mv (pc1 := 69) (st1 := [.int (v 12), .ref 33]) rfl rfl rfl ?_
      refine w_call (M' := sM_125) (vals := [.ref 33, .int (v 12)]) (rest := []) (lv' := [(0, .ref 33), (1, .int (v 12))]) rfl rfl rfl rfl rfl rfl rfl rfl rfl rfl ?_
      obtain ⟨o9a, o9b, hh⟩ := hh
      refine m_at_ o9a o9b ?_
      refine w_ki (pc1 := 72) rfl ?_
      refine w_mv (pc1 := 74) (st1 := [.int 40, .int (m_at v a (v 12))]) rfl rfl rfl ?_
      by_cases h10 : (m_at v a (v 12)).toInt = 40
      ·
        replace hh := hh.2 h10
        refine w_ine_F (pc1 := 77) rfl (by decide) rfl (show (m_at v a (v 12)).toInt = 40 from h10) ?_
        refine w_mv (pc1 := 80) (lv1 := [(2, .int (p2 + 1)), (0, .ref 33), (3, .int p3), (4, .int p4)]) (st1 := []) rfl rfl rfl ?_
        refine w_mv (pc1 := 81) (st1 := [.ref 33]) rfl rfl rfl ?_
        refine w_mv (pc1 := 84) (st1 := [.ref 60]) rfl rfl rfl ?_
        refine w_mv (pc1 := 85) (st1 := [.int (p2 + 1), .ref 60]) rfl rfl rfl ?_
        refine w_mv (pc1 := 86) (st1 := [.ref 33, .int (p2 + 1), .ref 60]) rfl rfl rfl ?_
        refine w_mv (pc1 := 87) (st1 := [.int p3, .ref 33, .int (p2 + 1), .ref 60]) rfl rfl rfl ?_
        refine w_call (M' := sM_136) (vals := [.ref 33, .int p3]) (rest := [.int (p2 + 1), .ref 60]) (lv' := [(0, .ref 33), (1, .int p3)]) rfl rfl rfl rfl rfl rfl rfl rfl rfl rfl ?_
        refine hh A B _ dc ds _ (fun r11 v11 a11 hh => ?_)
        show s_kont _ _ _ _ _ _ _ (.inl (some (.int r11))) (mH A B v11 a11) dc ds
        refine w_ki (pc1 := 90) rfl ?_
        obtain ⟨o12a, o12b, hh⟩ := hh
        refine w_ast (x := 60) (t := 0) (n := 8) (f := (a11 33)) (ty := .int) (nw := fun x => x) (pc1 := 91) (hs1 := mH A B v11 (va_up a11 33 (upd (a11 33) (p2 + 1).toNatClampNeg r11))) rfl rfl rfl rfl rfl rfl o12a o12b rfl mst_33 ?_
        refine w_mv (pc1 := 92) (st1 := [.ref 33]) rfl rfl rfl ?_
        refine w_mv (pc1 := 95) (st1 := [.ref 61]) rfl rfl rfl ?_
        refine w_mv (pc1 := 96) (st1 := [.int (p2 + 1), .ref 61]) rfl rfl rfl ?_
        refine w_mv (pc1 := 97) (st1 := [.int 0, .int (p2 + 1), .ref 61]) rfl rfl rfl ?_
        obtain ⟨o13a, o13b, hh⟩ := hh
        refine w_ast (x := 61) (t := 0) (n := 8) (f := (a11 34)) (ty := .int) (nw := fun x => x) (pc1 := 98) (hs1 := mH A B v11 (va_up (va_up a11 33 (upd (a11 33) (p2 + 1).toNatClampNeg r11)) 34 (upd (a11 34) (p2 + 1).toNatClampNeg 0))) rfl rfl rfl rfl rfl rfl o13a o13b rfl mst_34 ?_
        refine w_mv (pc1 := 150) (st1 := []) rfl rfl rfl ?_
        refine w_mv (pc1 := 151) (st1 := [.ref 33]) rfl rfl rfl ?_
        refine w_mv (pc1 := 152) (st1 := [.ref 33, .ref 33]) rfl rfl rfl ?_
        refine w_mv (pc1 := 155) (st1 := [.int (v11 12), .ref 33]) rfl rfl rfl ?_
        refine w_mv (pc1 := 156) (st1 := [.int 1, .int (v11 12), .ref 33]) rfl rfl rfl ?_
        refine w_mv (pc1 := 157) (st1 := [.int (v11 12 + 1), .ref 33]) rfl rfl rfl ?_
        refine w_st (pc1 := 160) (st1 := []) (hs1 := mH A B (va_up v11 12 (v11 12 + 1)) (va_up (va_up a11 33 (upd (a11 33) (p2 + 1).toNatClampNeg r11)) 34 (upd (a11 34) (p2 + 1).toNatClampNeg 0))) (dc1 := 0) (ds1 := 0) (dc2 := dc) (ds2 := ds) rfl rfl rfl rfl rfl ?_
        refine w_wk (l1 := [(0, .ref 33), (2, .int (p2 + 1))]) rfl ⟨rfl, rfl, trivial⟩ ?_
        exact hh A B d dc ds P hP
      ·
        replace hh := hh.1 h10
        refine w_ine_T (pc1 := 101) rfl rfl (show (m_at v a (v 12)).toInt ≠ 40 from h10) ?_
        refine w_wk (l1 := [(0, .ref 33), (2, .int p2)]) rfl ⟨rfl, rfl, trivial⟩ ?_
        exact hh A B d dc ds P hP
set_option maxRecDepth 20000 in
set_option maxHeartbeats 4000000 in
theorem r_139_101 {p2 : Int32} {v : Nat → Int32} {a : Nat → Nat → Int32} {K : Int32 → (Nat → Int32) → (Nat → Nat → Int32) → Prop} (hh : ((p2.toInt ≤ 0 → ((p2.toInt ≠ 0 → 0 ≤ p2.toInt ∧ p2.toInt < 8 ∧ 0 ≤ p2.toInt ∧ p2.toInt < 8 ∧ mT 4 sM_139 160 [(0, .ref 33), (2, .int p2)] [] (va_up v 12 (v 12 + 1)) (va_up a 34 (upd (a 34) p2.toNatClampNeg (((a 34) p2.toNatClampNeg) + 1))) K) ∧ (p2.toInt = 0 → K 1 v a))) ∧ (0 < p2.toInt → 0 ≤ (v 12).toInt ∧ (v 13).toInt ≤ 624 ∧ (((m_at v a (v 12)).toInt ≠ 41 → ((p2.toInt ≠ 0 → 0 ≤ p2.toInt ∧ p2.toInt < 8 ∧ 0 ≤ p2.toInt ∧ p2.toInt < 8 ∧ mT 4 sM_139 160 [(0, .ref 33), (2, .int p2)] [] (va_up v 12 (v 12 + 1)) (va_up a 34 (upd (a 34) p2.toNatClampNeg (((a 34) p2.toNatClampNeg) + 1))) K) ∧ (p2.toInt = 0 → K 1 v a))) ∧ ((m_at v a (v 12)).toInt = 41 → mT 4 sM_139 101 [(0, .ref 33), (2, .int (p2 + (-1)))] [] (va_up v 12 (v 12 + 1)) a K))))) : mT 4 sM_139 101 [(0, .ref 33), (2, .int p2)] [] v a K := by
  intro A B d dc ds P hP
  refine w_mv (pc1 := 102) (st1 := [.int p2]) rfl rfl rfl ?_
  by_cases h1 : p2.toInt ≤ 0
  ·
    replace hh := hh.1 h1
    refine w_zle_T (pc1 := 134) rfl rfl (show p2.toInt ≤ 0 from h1) ?_
    refine w_mv (pc1 := 135) (st1 := [.int p2]) rfl rfl rfl ?_
    by_cases h2 : p2.toInt = 0
    ·
      replace hh := hh.2 h2
      refine w_zne_F (pc1 := 138) rfl (by decide) rfl (show p2.toInt = 0 from h2) ?_
      refine w_mv (pc1 := 139) (st1 := [.int 1]) rfl rfl rfl ?_
      exact sx_wp.stop rfl rfl rfl (hP 1 _ _ hh)
    ·
      replace hh := hh.1 h2
      refine w_zne_T (pc1 := 140) rfl rfl (show p2.toInt ≠ 0 from h2) ?_
      refine w_mv (pc1 := 141) (st1 := [.ref 33]) rfl rfl rfl ?_
      refine w_mv (pc1 := 144) (st1 := [.ref 61]) rfl rfl rfl ?_
      refine w_mv (pc1 := 145) (st1 := [.int p2, .ref 61]) rfl rfl rfl ?_
      refine w_mv (pc1 := 146) (st1 := [.int p2, .ref 61, .int p2, .ref 61]) rfl rfl rfl ?_
      obtain ⟨o3a, o3b, hh⟩ := hh
      refine w_ald (x := 61) (t := 0) (A := (8, .inl (a 34))) (v := .int ((a 34) p2.toNatClampNeg)) (pc1 := 147) rfl rfl rfl rfl rfl o3a o3b rfl rfl ?_
      refine w_mv (pc1 := 148) (st1 := [.int 1, .int ((a 34) p2.toNatClampNeg), .int p2, .ref 61]) rfl rfl rfl ?_
      refine w_mv (pc1 := 149) (st1 := [.int (((a 34) p2.toNatClampNeg) + 1), .int p2, .ref 61]) rfl rfl rfl ?_
      obtain ⟨o4a, o4b, hh⟩ := hh
      refine w_ast (x := 61) (t := 0) (n := 8) (f := (a 34)) (ty := .int) (nw := fun x => x) (pc1 := 150) (hs1 := mH A B v (va_up a 34 (upd (a 34) p2.toNatClampNeg (((a 34) p2.toNatClampNeg) + 1)))) rfl rfl rfl rfl rfl rfl o4a o4b rfl mst_34 ?_
      refine w_mv (pc1 := 151) (st1 := [.ref 33]) rfl rfl rfl ?_
      refine w_mv (pc1 := 152) (st1 := [.ref 33, .ref 33]) rfl rfl rfl ?_
      refine w_mv (pc1 := 155) (st1 := [.int (v 12), .ref 33]) rfl rfl rfl ?_
      refine w_mv (pc1 := 156) (st1 := [.int 1, .int (v 12), .ref 33]) rfl rfl rfl ?_
      refine w_mv (pc1 := 157) (st1 := [.int (v 12 + 1), .ref 33]) rfl rfl rfl ?_
      refine w_st (pc1 := 160) (st1 := []) (hs1 := mH A B (va_up v 12 (v 12 + 1)) (va_up a 34 (upd (a 34) p2.toNatClampNeg (((a 34) p2.toNatClampNeg) + 1)))) (dc1 := 0) (ds1 := 0) (dc2 := dc) (ds2 := ds) rfl rfl rfl rfl rfl ?_
      refine w_wk (l1 := [(0, .ref 33), (2, .int p2)]) rfl ⟨rfl, rfl, trivial⟩ ?_
      exact hh A B d dc ds P hP
  ·
    replace hh := hh.2 (Int.not_le.mp h1)
    refine w_zle_F (pc1 := 105) rfl (by decide) rfl (show 0 < p2.toInt from (Int.not_le.mp h1)) ?_
    refine w_mv (pc1 := 106) (st1 := [.ref 33]) rfl rfl rfl ?_
    refine w_mv (pc1 := 107) (st1 := [.ref 33, .ref 33]) rfl rfl rfl ?_
    refine w_mv (pc1 := 110) (st1 := [.int (v 12), .ref 33]) rfl rfl rfl ?_
    refine w_call (M' := sM_125) (vals := [.ref 33, .int (v 12)]) (rest := []) (lv' := [(0, .ref 33), (1, .int (v 12))]) rfl rfl rfl rfl rfl rfl rfl rfl rfl rfl ?_
    obtain ⟨o5a, o5b, hh⟩ := hh
    refine m_at_ o5a o5b ?_
    refine w_ki (pc1 := 113) rfl ?_
    refine w_mv (pc1 := 115) (st1 := [.int 41, .int (m_at v a (v 12))]) rfl rfl rfl ?_
    by_cases h6 : (m_at v a (v 12)).toInt = 41
    ·
      replace hh := hh.2 h6
      refine w_ine_F (pc1 := 118) rfl (by decide) rfl (show (m_at v a (v 12)).toInt = 41 from h6) ?_
      refine w_mv (pc1 := 119) (st1 := [.ref 33]) rfl rfl rfl ?_
      refine w_mv (pc1 := 120) (st1 := [.ref 33, .ref 33]) rfl rfl rfl ?_
      refine w_mv (pc1 := 123) (st1 := [.int (v 12), .ref 33]) rfl rfl rfl ?_
      refine w_mv (pc1 := 124) (st1 := [.int 1, .int (v 12), .ref 33]) rfl rfl rfl ?_
      refine w_mv (pc1 := 125) (st1 := [.int (v 12 + 1), .ref 33]) rfl rfl rfl ?_
      refine w_st (pc1 := 128) (st1 := []) (hs1 := mH A B (va_up v 12 (v 12 + 1)) a) (dc1 := 0) (ds1 := 0) (dc2 := dc) (ds2 := ds) rfl rfl rfl rfl rfl ?_
      refine w_mv (pc1 := 131) (lv1 := [(2, .int (p2 + (-1))), (0, .ref 33)]) (st1 := []) rfl rfl rfl ?_
      refine w_mv (pc1 := 101) (st1 := []) rfl rfl rfl ?_
      refine w_wk (l1 := [(0, .ref 33), (2, .int (p2 + (-1)))]) rfl ⟨rfl, rfl, trivial⟩ ?_
      exact hh A B d dc ds P hP
    ·
      replace hh := hh.1 h6
      refine w_ine_T (pc1 := 134) rfl rfl (show (m_at v a (v 12)).toInt ≠ 41 from h6) ?_
      refine w_mv (pc1 := 135) (st1 := [.int p2]) rfl rfl rfl ?_
      by_cases h7 : p2.toInt = 0
      ·
        replace hh := hh.2 h7
        refine w_zne_F (pc1 := 138) rfl (by decide) rfl (show p2.toInt = 0 from h7) ?_
        refine w_mv (pc1 := 139) (st1 := [.int 1]) rfl rfl rfl ?_
        exact sx_wp.stop rfl rfl rfl (hP 1 _ _ hh)
      ·
        replace hh := hh.1 h7
        refine w_zne_T (pc1 := 140) rfl rfl (show p2.toInt ≠ 0 from h7) ?_
        refine w_mv (pc1 := 141) (st1 := [.ref 33]) rfl rfl rfl ?_
        refine w_mv (pc1 := 144) (st1 := [.ref 61]) rfl rfl rfl ?_
        refine w_mv (pc1 := 145) (st1 := [.int p2, .ref 61]) rfl rfl rfl ?_
        refine w_mv (pc1 := 146) (st1 := [.int p2, .ref 61, .int p2, .ref 61]) rfl rfl rfl ?_
        obtain ⟨o8a, o8b, hh⟩ := hh
        refine w_ald (x := 61) (t := 0) (A := (8, .inl (a 34))) (v := .int ((a 34) p2.toNatClampNeg)) (pc1 := 147) rfl rfl rfl rfl rfl o8a o8b rfl rfl ?_
        refine w_mv (pc1 := 148) (st1 := [.int 1, .int ((a 34) p2.toNatClampNeg), .int p2, .ref 61]) rfl rfl rfl ?_
        refine w_mv (pc1 := 149) (st1 := [.int (((a 34) p2.toNatClampNeg) + 1), .int p2, .ref 61]) rfl rfl rfl ?_
        obtain ⟨o9a, o9b, hh⟩ := hh
        refine w_ast (x := 61) (t := 0) (n := 8) (f := (a 34)) (ty := .int) (nw := fun x => x) (pc1 := 150) (hs1 := mH A B v (va_up a 34 (upd (a 34) p2.toNatClampNeg (((a 34) p2.toNatClampNeg) + 1)))) rfl rfl rfl rfl rfl rfl o9a o9b rfl mst_34 ?_
        refine w_mv (pc1 := 151) (st1 := [.ref 33]) rfl rfl rfl ?_
        refine w_mv (pc1 := 152) (st1 := [.ref 33, .ref 33]) rfl rfl rfl ?_
        refine w_mv (pc1 := 155) (st1 := [.int (v 12), .ref 33]) rfl rfl rfl ?_
        refine w_mv (pc1 := 156) (st1 := [.int 1, .int (v 12), .ref 33]) rfl rfl rfl ?_
        refine w_mv (pc1 := 157) (st1 := [.int (v 12 + 1), .ref 33]) rfl rfl rfl ?_
        refine w_st (pc1 := 160) (st1 := []) (hs1 := mH A B (va_up v 12 (v 12 + 1)) (va_up a 34 (upd (a 34) p2.toNatClampNeg (((a 34) p2.toNatClampNeg) + 1)))) (dc1 := 0) (ds1 := 0) (dc2 := dc) (ds2 := ds) rfl rfl rfl rfl rfl ?_
        refine w_wk (l1 := [(0, .ref 33), (2, .int p2)]) rfl ⟨rfl, rfl, trivial⟩ ?_
        exact hh A B d dc ds P hP
set_option maxRecDepth 20000 in
set_option maxHeartbeats 4000000 in
theorem r_139_160 {p2 : Int32} {v : Nat → Int32} {a : Nat → Nat → Int32} {K : Int32 → (Nat → Int32) → (Nat → Nat → Int32) → Prop} (hh : 0 ≤ p2.toInt ∧ p2.toInt < 8 ∧ 0 ≤ p2.toInt ∧ p2.toInt < 8 ∧ 0 ≤ ((((a 33) p2.toNatClampNeg) * 3) + ((a 34) p2.toNatClampNeg)).toInt ∧ ((((a 33) p2.toNatClampNeg) * 3) + ((a 34) p2.toNatClampNeg)).toInt < 78000 ∧ mT 4 sM_139 4 [(0, .ref 33), (2, .int p2), (3, .int ((a 16) ((((a 33) p2.toNatClampNeg) * 3) + ((a 34) p2.toNatClampNeg)).toNatClampNeg))] [] v a K) : mT 4 sM_139 160 [(0, .ref 33), (2, .int p2)] [] v a K := by
  intro A B d dc ds P hP
  refine w_mv (pc1 := 161) (st1 := [.ref 33]) rfl rfl rfl ?_
  refine w_mv (pc1 := 164) (st1 := [.ref 43]) rfl rfl rfl ?_
  refine w_mv (pc1 := 165) (st1 := [.ref 33, .ref 43]) rfl rfl rfl ?_
  refine w_mv (pc1 := 168) (st1 := [.ref 60, .ref 43]) rfl rfl rfl ?_
  refine w_mv (pc1 := 169) (st1 := [.int p2, .ref 60, .ref 43]) rfl rfl rfl ?_
  obtain ⟨o1a, o1b, hh⟩ := hh
  refine w_ald (x := 60) (t := 0) (A := (8, .inl (a 33))) (v := .int ((a 33) p2.toNatClampNeg)) (pc1 := 170) rfl rfl rfl rfl rfl o1a o1b rfl rfl ?_
  refine w_mv (pc1 := 171) (st1 := [.int 3, .int ((a 33) p2.toNatClampNeg), .ref 43]) rfl rfl rfl ?_
  refine w_mv (pc1 := 172) (st1 := [.int (((a 33) p2.toNatClampNeg) * 3), .ref 43]) rfl rfl rfl ?_
  refine w_mv (pc1 := 173) (st1 := [.ref 33, .int (((a 33) p2.toNatClampNeg) * 3), .ref 43]) rfl rfl rfl ?_
  refine w_mv (pc1 := 176) (st1 := [.ref 61, .int (((a 33) p2.toNatClampNeg) * 3), .ref 43]) rfl rfl rfl ?_
  refine w_mv (pc1 := 177) (st1 := [.int p2, .ref 61, .int (((a 33) p2.toNatClampNeg) * 3), .ref 43]) rfl rfl rfl ?_
  obtain ⟨o2a, o2b, hh⟩ := hh
  refine w_ald (x := 61) (t := 0) (A := (8, .inl (a 34))) (v := .int ((a 34) p2.toNatClampNeg)) (pc1 := 178) rfl rfl rfl rfl rfl o2a o2b rfl rfl ?_
  refine w_mv (pc1 := 179) (st1 := [.int ((((a 33) p2.toNatClampNeg) * 3) + ((a 34) p2.toNatClampNeg)), .ref 43]) rfl rfl rfl ?_
  obtain ⟨o3a, o3b, hh⟩ := hh
  refine w_ald (x := 43) (t := 0) (A := (78000, .inl (a 16))) (v := .int ((a 16) ((((a 33) p2.toNatClampNeg) * 3) + ((a 34) p2.toNatClampNeg)).toNatClampNeg)) (pc1 := 180) rfl rfl rfl rfl rfl o3a o3b rfl rfl ?_
  refine w_mv (pc1 := 181) (lv1 := [(3, .int ((a 16) ((((a 33) p2.toNatClampNeg) * 3) + ((a 34) p2.toNatClampNeg)).toNatClampNeg)), (0, .ref 33), (2, .int p2)]) (st1 := []) rfl rfl rfl ?_
  refine w_mv (pc1 := 4) (st1 := []) rfl rfl rfl ?_
  refine w_wk (l1 := [(0, .ref 33), (2, .int p2), (3, .int ((a 16) ((((a 33) p2.toNatClampNeg) * 3) + ((a 34) p2.toNatClampNeg)).toNatClampNeg))]) rfl ⟨rfl, rfl, rfl, trivial⟩ ?_
  exact hh A B d dc ds P hP
set_option maxRecDepth 20000 in
set_option maxHeartbeats 4000000 in
theorem r_140_0 {p1 : Int32} {v : Nat → Int32} {a : Nat → Nat → Int32} {K : Int32 → (Nat → Int32) → (Nat → Nat → Int32) → Prop} (hh : 0 ≤ (v 12).toInt ∧ (v 13).toInt ≤ 624 ∧ ((65 ≤ (m_at v a (v 12)).toInt → (m_at v a (v 12)).toInt ≤ 90 → 0 ≤ ((m_at v a (v 12)) - 65).toInt ∧ ((m_at v a (v 12)) - 65).toInt < 26 ∧ ((((a 5) ((m_at v a (v 12)) - 65).toNatClampNeg).toInt = 2147483647 → 0 ≤ ((m_at v a (v 12)) - 65).toInt ∧ ((m_at v a (v 12)) - 65).toInt < 26 ∧ K 1 (va_up v 12 (v 12 + 1)) (va_up a 5 (upd (a 5) ((m_at v a (v 12)) - 65).toNatClampNeg p1))) ∧ (((a 5) ((m_at v a (v 12)) - 65).toNatClampNeg).toInt ≠ 2147483647 → 0 ≤ ((m_at v a (v 12)) - 65).toInt ∧ ((m_at v a (v 12)) - 65).toInt < 26 ∧ mT 2 sM_141 0 [(0, .ref 33), (1, .int ((a 5) ((m_at v a (v 12)) - 65).toNatClampNeg)), (2, .int p1)] [] (va_up v 12 (v 12 + 1)) a (fun r7 v7 a7 => K r7 v7 a7)))) ∧ (((m_at v a (v 12)).toInt < 65 ∨ 90 < (m_at v a (v 12)).toInt) → mT 0 sM_136 0 [(0, .ref 33), (1, .int p1)] [] v a (fun r8 v8 a8 => ((0 ≤ r8.toInt → ((48 ≤ (m_at v a (v 12)).toInt → (m_at v a (v 12)).toInt ≤ 57 → mT 2 sM_126 0 [(0, .ref 33)] [] v8 a8 (fun r11 v11 a11 => ((r8.toInt < 0 → K 0 (va_up v11 37 (v11 37 - 1)) a11) ∧ (0 ≤ r8.toInt → 0 ≤ r8.toInt ∧ r8.toInt < 26000 ∧ ((((a11 14) r8.toNatClampNeg).toInt ≠ 0 → K 0 (va_up v11 37 (v11 37 - 1)) a11) ∧ (((a11 14) r8.toNatClampNeg).toInt = 0 → 0 ≤ (r8 * 3).toInt ∧ (r8 * 3).toInt < 78000 ∧ 0 ≤ (r11 * 3).toInt ∧ (r11 * 3).toInt < 78000 ∧ ((((a11 16) (r8 * 3).toNatClampNeg).toInt ≠ ((a11 16) (r11 * 3).toNatClampNeg).toInt → K 0 (va_up v11 37 (v11 37 - 1)) a11) ∧ (((a11 16) (r8 * 3).toNatClampNeg).toInt = ((a11 16) (r11 * 3).toNatClampNeg).toInt → K 1 (va_up v11 37 (v11 37 - 1)) a11)))))))) ∧ (((m_at v a (v 12)).toInt < 48 ∨ 57 < (m_at v a (v 12)).toInt) → 0 ≤ r8.toInt ∧ r8.toInt < 26000 ∧ ((((a8 14) r8.toNatClampNeg).toInt ≠ (m_at v a (v 12)).toInt → K 0 v8 a8) ∧ (((a8 14) r8.toNatClampNeg).toInt = (m_at v a (v 12)).toInt → 0 ≤ r8.toInt ∧ r8.toInt < 26000 ∧ mT 1 sM_145 0 [(0, .ref 33), (1, .int (v8 12))] [] v8 a8 (fun r21 v21 a21 => ((((a8 15) r8.toNatClampNeg).toInt = r21.toInt → K 1 (va_up v21 12 (v21 12 + 1)) a21) ∧ (((a8 15) r8.toNatClampNeg).toInt ≠ r21.toInt → K 0 v21 a21)))))))) ∧ (r8.toInt < 0 → K r8 v8 a8)))))) : mT 3 sM_140 0 [(0, .ref 33), (1, .int p1)] [] v a K := by
  intro A B d dc ds P hP
  refine w_mv (pc1 := 1) (st1 := [.ref 33]) rfl rfl rfl ?_
  refine w_mv (pc1 := 2) (st1 := [.ref 33, .ref 33]) rfl rfl rfl ?_
  refine w_mv (pc1 := 5) (st1 := [.int (v 12), .ref 33]) rfl rfl rfl ?_
  refine w_call (M' := sM_125) (vals := [.ref 33, .int (v 12)]) (rest := []) (lv' := [(0, .ref 33), (1, .int (v 12))]) rfl rfl rfl rfl rfl rfl rfl rfl rfl rfl ?_
  obtain ⟨o1a, o1b, hh⟩ := hh
  refine m_at_ o1a o1b ?_
  refine w_ki (pc1 := 8) rfl ?_
  refine w_mv (pc1 := 9) (lv1 := [(2, .int (m_at v a (v 12))), (0, .ref 33), (1, .int p1)]) (st1 := []) rfl rfl rfl ?_
  refine w_mv (pc1 := 10) (st1 := [.int (m_at v a (v 12))]) rfl rfl rfl ?_
  refine w_mv (pc1 := 12) (st1 := [.int 65, .int (m_at v a (v 12))]) rfl rfl rfl ?_
  refine w_mv (pc1 := 14) (st1 := [.int 90, .int 65, .int (m_at v a (v 12))]) rfl rfl rfl ?_
  refine w_call (M' := sM_111) (vals := [.int (m_at v a (v 12)), .int 65, .int 90]) (rest := []) (lv' := [(0, .int (m_at v a (v 12))), (1, .int 65), (2, .int 90)]) rfl rfl rfl rfl rfl rfl rfl rfl rfl rfl ?_
  refine m_in (fun h2a h2b => ?_) (fun h2c => ?_)
  ·
    replace hh := hh.1 h2a h2b
    refine w_ki (pc1 := 17) rfl ?_
    refine w_mv (pc1 := 20) (st1 := []) rfl rfl rfl ?_
    refine w_mv (pc1 := 21) (st1 := [.ref 33]) rfl rfl rfl ?_
    refine w_mv (pc1 := 22) (st1 := [.ref 33, .ref 33]) rfl rfl rfl ?_
    refine w_mv (pc1 := 25) (st1 := [.int (v 12), .ref 33]) rfl rfl rfl ?_
    refine w_mv (pc1 := 26) (st1 := [.int 1, .int (v 12), .ref 33]) rfl rfl rfl ?_
    refine w_mv (pc1 := 27) (st1 := [.int (v 12 + 1), .ref 33]) rfl rfl rfl ?_
    refine w_st (pc1 := 30) (st1 := []) (hs1 := mH A B (va_up v 12 (v 12 + 1)) a) (dc1 := 0) (ds1 := 0) (dc2 := dc) (ds2 := ds) rfl rfl rfl rfl rfl ?_
    refine w_mv (pc1 := 31) (st1 := [.int (m_at v a (v 12))]) rfl rfl rfl ?_
    refine w_mv (pc1 := 33) (st1 := [.int 65, .int (m_at v a (v 12))]) rfl rfl rfl ?_
    refine w_mv (pc1 := 34) (st1 := [.int ((m_at v a (v 12)) - 65)]) rfl rfl rfl ?_
    refine w_mv (pc1 := 35) (lv1 := [(3, .int ((m_at v a (v 12)) - 65)), (2, .int (m_at v a (v 12))), (0, .ref 33), (1, .int p1)]) (st1 := []) rfl rfl rfl ?_
    refine w_mv (pc1 := 36) (st1 := [.ref 33]) rfl rfl rfl ?_
    refine w_mv (pc1 := 39) (st1 := [.ref 39]) rfl rfl rfl ?_
    refine w_mv (pc1 := 40) (st1 := [.int ((m_at v a (v 12)) - 65), .ref 39]) rfl rfl rfl ?_
    obtain ⟨o3a, o3b, hh⟩ := hh
    refine w_ald (x := 39) (t := 0) (A := (26, .inl (a 5))) (v := .int ((a 5) ((m_at v a (v 12)) - 65).toNatClampNeg)) (pc1 := 41) rfl rfl rfl rfl rfl o3a o3b rfl rfl ?_
    refine w_mv (pc1 := 43) (st1 := [.int 2147483647, .int ((a 5) ((m_at v a (v 12)) - 65).toNatClampNeg)]) rfl rfl rfl ?_
    by_cases h4 : ((a 5) ((m_at v a (v 12)) - 65).toNatClampNeg).toInt = 2147483647
    ·
      replace hh := hh.1 h4
      refine w_ieq_T (pc1 := 58) rfl rfl (show ((a 5) ((m_at v a (v 12)) - 65).toNatClampNeg).toInt = 2147483647 from h4) ?_
      refine w_mv (pc1 := 59) (st1 := [.ref 33]) rfl rfl rfl ?_
      refine w_mv (pc1 := 62) (st1 := [.ref 39]) rfl rfl rfl ?_
      refine w_mv (pc1 := 63) (st1 := [.int ((m_at v a (v 12)) - 65), .ref 39]) rfl rfl rfl ?_
      refine w_mv (pc1 := 64) (st1 := [.int p1, .int ((m_at v a (v 12)) - 65), .ref 39]) rfl rfl rfl ?_
      obtain ⟨o5a, o5b, hh⟩ := hh
      refine w_ast (x := 39) (t := 0) (n := 26) (f := (a 5)) (ty := .int) (nw := fun x => x) (pc1 := 65) (hs1 := mH A B (va_up v 12 (v 12 + 1)) (va_up a 5 (upd (a 5) ((m_at v a (v 12)) - 65).toNatClampNeg p1))) rfl rfl rfl rfl rfl rfl o5a o5b rfl mst_5 ?_
      refine w_mv (pc1 := 66) (st1 := [.int 1]) rfl rfl rfl ?_
      exact sx_wp.stop rfl rfl rfl (hP 1 _ _ hh)
    ·
      replace hh := hh.2 h4
      refine w_ieq_F (pc1 := 46) rfl (by decide) rfl (show ((a 5) ((m_at v a (v 12)) - 65).toNatClampNeg).toInt ≠ 2147483647 from h4) ?_
      refine w_mv (pc1 := 47) (st1 := [.ref 33]) rfl rfl rfl ?_
      refine w_mv (pc1 := 48) (st1 := [.ref 33, .ref 33]) rfl rfl rfl ?_
      refine w_mv (pc1 := 51) (st1 := [.ref 39, .ref 33]) rfl rfl rfl ?_
      refine w_mv (pc1 := 52) (st1 := [.int ((m_at v a (v 12)) - 65), .ref 39, .ref 33]) rfl rfl rfl ?_
      obtain ⟨o6a, o6b, hh⟩ := hh
      refine w_ald (x := 39) (t := 0) (A := (26, .inl (a 5))) (v := .int ((a 5) ((m_at v a (v 12)) - 65).toNatClampNeg)) (pc1 := 53) rfl rfl rfl rfl rfl o6a o6b rfl rfl ?_
      refine w_mv (pc1 := 54) (st1 := [.int p1, .int ((a 5) ((m_at v a (v 12)) - 65).toNatClampNeg), .ref 33]) rfl rfl rfl ?_
      refine w_call (M' := sM_141) (vals := [.ref 33, .int ((a 5) ((m_at v a (v 12)) - 65).toNatClampNeg), .int p1]) (rest := []) (lv' := [(0, .ref 33), (1, .int ((a 5) ((m_at v a (v 12)) - 65).toNatClampNeg)), (2, .int p1)]) rfl rfl rfl rfl rfl rfl rfl rfl rfl rfl ?_
      refine hh A B _ dc ds _ (fun r7 v7 a7 hh => ?_)
      show s_kont _ _ _ _ _ _ _ (.inl (some (.int r7))) (mH A B v7 a7) dc ds
      refine w_ki (pc1 := 57) rfl ?_
      exact sx_wp.stop rfl rfl rfl (hP r7 _ _ hh)
  ·
    replace hh := hh.2 h2c
    refine w_ki (pc1 := 17) rfl ?_
    refine w_mv (pc1 := 67) (st1 := []) rfl rfl rfl ?_
    refine w_mv (pc1 := 68) (st1 := [.ref 33]) rfl rfl rfl ?_
    refine w_mv (pc1 := 69) (st1 := [.int p1, .ref 33]) rfl rfl rfl ?_
    refine w_call (M' := sM_136) (vals := [.ref 33, .int p1]) (rest := []) (lv' := [(0, .ref 33), (1, .int p1)]) rfl rfl rfl rfl rfl rfl rfl rfl rfl rfl ?_
    refine hh A B _ dc ds _ (fun r8 v8 a8 hh => ?_)
    show s_kont _ _ _ _ _ _ _ (.inl (some (.int r8))) (mH A B v8 a8) dc ds
    refine w_ki (pc1 := 72) rfl ?_
    refine w_mv (pc1 := 73) (lv1 := [(3, .int r8), (2, .int (m_at v a (v 12))), (0, .ref 33), (1, .int p1)]) (st1 := []) rfl rfl rfl ?_
    refine w_mv (pc1 := 74) (st1 := [.int r8]) rfl rfl rfl ?_
    by_cases h9 : 0 ≤ r8.toInt
    ·
      replace hh := hh.1 h9
      refine w_zge_T (pc1 := 79) rfl rfl (show 0 ≤ r8.toInt from h9) ?_
      refine w_mv (pc1 := 80) (st1 := [.int (m_at v a (v 12))]) rfl rfl rfl ?_
      refine w_mv (pc1 := 82) (st1 := [.int 48, .int (m_at v a (v 12))]) rfl rfl rfl ?_
      refine w_mv (pc1 := 84) (st1 := [.int 57, .int 48, .int (m_at v a (v 12))]) rfl rfl rfl ?_
      refine w_call (M' := sM_111) (vals := [.int (m_at v a (v 12)), .int 48, .int 57]) (rest := []) (lv' := [(0, .int (m_at v a (v 12))), (1, .int 48), (2, .int 57)]) rfl rfl rfl rfl rfl rfl rfl rfl rfl rfl ?_
      refine m_in (fun h10a h10b => ?_) (fun h10c => ?_)
      ·
        replace hh := hh.1 h10a h10b
        refine w_ki (pc1 := 87) rfl ?_
        refine w_mv (pc1 := 90) (st1 := []) rfl rfl rfl ?_
        refine w_mv (pc1 := 91) (st1 := [.ref 33]) rfl rfl rfl ?_
        refine w_call (M' := sM_126) (vals := [.ref 33]) (rest := []) (lv' := [(0, .ref 33)]) rfl rfl rfl rfl rfl rfl rfl rfl rfl rfl ?_
        refine hh A B _ dc ds _ (fun r11 v11 a11 hh => ?_)
        show s_kont _ _ _ _ _ _ _ (.inl (some (.int r11))) (mH A B v11 a11) dc ds
        refine w_ki (pc1 := 94) rfl ?_
        refine w_mv (pc1 := 96) (lv1 := [(4, .int r11), (3, .int r8), (2, .int (m_at v a (v 12))), (0, .ref 33), (1, .int p1)]) (st1 := []) rfl rfl rfl ?_
        refine w_mv (pc1 := 97) (st1 := [.ref 33]) rfl rfl rfl ?_
        refine w_mv (pc1 := 98) (st1 := [.ref 33, .ref 33]) rfl rfl rfl ?_
        refine w_mv (pc1 := 101) (st1 := [.int (v11 37), .ref 33]) rfl rfl rfl ?_
        refine w_mv (pc1 := 102) (st1 := [.int 1, .int (v11 37), .ref 33]) rfl rfl rfl ?_
        refine w_mv (pc1 := 103) (st1 := [.int (v11 37 - 1), .ref 33]) rfl rfl rfl ?_
        refine w_st (pc1 := 106) (st1 := []) (hs1 := mH A B (va_up v11 37 (v11 37 - 1)) a11) (dc1 := 0) (ds1 := 0) (dc2 := dc) (ds2 := ds) rfl rfl rfl rfl rfl ?_
        refine w_mv (pc1 := 107) (st1 := [.ref 33]) rfl rfl rfl ?_
        refine w_mv (pc1 := 108) (st1 := [.int r8, .ref 33]) rfl rfl rfl ?_
        refine w_call (M' := sM_144) (vals := [.ref 33, .int r8]) (rest := []) (lv' := [(0, .ref 33), (1, .int r8)]) rfl rfl rfl rfl rfl rfl rfl rfl rfl rfl ?_
        refine w_mv (pc1 := 1) (st1 := [.int r8]) rfl rfl rfl ?_
        by_cases h12 : r8.toInt < 0
        ·
          replace hh := hh.1 h12
          refine w_zlt_T (pc1 := 17) rfl rfl (show r8.toInt < 0 from h12) ?_
          refine w_mv (pc1 := 18) (st1 := [.int 0]) rfl rfl rfl ?_
          refine w_iret (pc1 := 111) rfl rfl rfl rfl ?_
          refine w_mv (pc1 := 138) (st1 := []) rfl rfl rfl ?_
          refine w_mv (pc1 := 139) (st1 := [.int 0]) rfl rfl rfl ?_
          exact sx_wp.stop rfl rfl rfl (hP 0 _ _ hh)
        ·
          replace hh := hh.2 (Int.not_lt.mp h12)
          refine w_zlt_F (pc1 := 4) rfl (by decide) rfl (show 0 ≤ r8.toInt from (Int.not_lt.mp h12)) ?_
          refine w_mv (pc1 := 5) (st1 := [.ref 33]) rfl rfl rfl ?_
          refine w_mv (pc1 := 8) (st1 := [.ref 41]) rfl rfl rfl ?_
          refine w_mv (pc1 := 9) (st1 := [.int r8, .ref 41]) rfl rfl rfl ?_
          obtain ⟨o13a, o13b, hh⟩ := hh
          refine w_ald (x := 41) (t := 0) (A := (26000, .inl (a11 14))) (v := .int ((a11 14) r8.toNatClampNeg)) (pc1 := 10) rfl rfl rfl rfl rfl o13a o13b rfl rfl ?_
          by_cases h14 : ((a11 14) r8.toNatClampNeg).toInt = 0
          ·
            replace hh := hh.2 h14
            refine w_zne_F (pc1 := 13) rfl (by decide) rfl (show ((a11 14) r8.toNatClampNeg).toInt = 0 from h14) ?_
            refine w_mv (pc1 := 14) (st1 := [.int 1]) rfl rfl rfl ?_
            refine w_mv (pc1 := 18) (st1 := [.int 1]) rfl rfl rfl ?_
            refine w_iret (pc1 := 111) rfl rfl rfl rfl ?_
            refine w_mv (pc1 := 114) (st1 := []) rfl rfl rfl ?_
            refine w_mv (pc1 := 115) (st1 := [.ref 33]) rfl rfl rfl ?_
            refine w_mv (pc1 := 118) (st1 := [.ref 43]) rfl rfl rfl ?_
            refine w_mv (pc1 := 119) (st1 := [.int r8, .ref 43]) rfl rfl rfl ?_
            refine w_mv (pc1 := 120) (st1 := [.int 3, .int r8, .ref 43]) rfl rfl rfl ?_
            refine w_mv (pc1 := 121) (st1 := [.int (r8 * 3), .ref 43]) rfl rfl rfl ?_
            obtain ⟨o15a, o15b, hh⟩ := hh
            refine w_ald (x := 43) (t := 0) (A := (78000, .inl (a11 16))) (v := .int ((a11 16) (r8 * 3).toNatClampNeg)) (pc1 := 122) rfl rfl rfl rfl rfl o15a o15b rfl rfl ?_
            refine w_mv (pc1 := 123) (st1 := [.ref 33, .int ((a11 16) (r8 * 3).toNatClampNeg)]) rfl rfl rfl ?_
            refine w_mv (pc1 := 126) (st1 := [.ref 43, .int ((a11 16) (r8 * 3).toNatClampNeg)]) rfl rfl rfl ?_
            refine w_mv (pc1 := 128) (st1 := [.int r11, .ref 43, .int ((a11 16) (r8 * 3).toNatClampNeg)]) rfl rfl rfl ?_
            refine w_mv (pc1 := 129) (st1 := [.int 3, .int r11, .ref 43, .int ((a11 16) (r8 * 3).toNatClampNeg)]) rfl rfl rfl ?_
            refine w_mv (pc1 := 130) (st1 := [.int (r11 * 3), .ref 43, .int ((a11 16) (r8 * 3).toNatClampNeg)]) rfl rfl rfl ?_
            obtain ⟨o16a, o16b, hh⟩ := hh
            refine w_ald (x := 43) (t := 0) (A := (78000, .inl (a11 16))) (v := .int ((a11 16) (r11 * 3).toNatClampNeg)) (pc1 := 131) rfl rfl rfl rfl rfl o16a o16b rfl rfl ?_
            by_cases h17 : ((a11 16) (r8 * 3).toNatClampNeg).toInt = ((a11 16) (r11 * 3).toNatClampNeg).toInt
            ·
              replace hh := hh.2 h17
              refine w_ine_F (pc1 := 134) rfl (by decide) rfl (show ((a11 16) (r8 * 3).toNatClampNeg).toInt = ((a11 16) (r11 * 3).toNatClampNeg).toInt from h17) ?_
              refine w_mv (pc1 := 135) (st1 := [.int 1]) rfl rfl rfl ?_
              refine w_mv (pc1 := 139) (st1 := [.int 1]) rfl rfl rfl ?_
              exact sx_wp.stop rfl rfl rfl (hP 1 _ _ hh)
            ·
              replace hh := hh.1 h17
              refine w_ine_T (pc1 := 138) rfl rfl (show ((a11 16) (r8 * 3).toNatClampNeg).toInt ≠ ((a11 16) (r11 * 3).toNatClampNeg).toInt from h17) ?_
              refine w_mv (pc1 := 139) (st1 := [.int 0]) rfl rfl rfl ?_
              exact sx_wp.stop rfl rfl rfl (hP 0 _ _ hh)
          ·
            replace hh := hh.1 h14
            refine w_zne_T (pc1 := 17) rfl rfl (show ((a11 14) r8.toNatClampNeg).toInt ≠ 0 from h14) ?_
            refine w_mv (pc1 := 18) (st1 := [.int 0]) rfl rfl rfl ?_
            refine w_iret (pc1 := 111) rfl rfl rfl rfl ?_
            refine w_mv (pc1 := 138) (st1 := []) rfl rfl rfl ?_
            refine w_mv (pc1 := 139) (st1 := [.int 0]) rfl rfl rfl ?_
            exact sx_wp.stop rfl rfl rfl (hP 0 _ _ hh)
      ·
        replace hh := hh.2 h10c
        refine w_ki (pc1 := 87) rfl ?_
        refine w_mv (pc1 := 140) (st1 := []) rfl rfl rfl ?_
        refine w_mv (pc1 := 141) (st1 := [.ref 33]) rfl rfl rfl ?_
        refine w_mv (pc1 := 144) (st1 := [.ref 41]) rfl rfl rfl ?_
        refine w_mv (pc1 := 145) (st1 := [.int r8, .ref 41]) rfl rfl rfl ?_
        obtain ⟨o18a, o18b, hh⟩ := hh
        refine w_ald (x := 41) (t := 0) (A := (26000, .inl (a8 14))) (v := .int ((a8 14) r8.toNatClampNeg)) (pc1 := 146) rfl rfl rfl rfl rfl o18a o18b rfl rfl ?_
        refine w_mv (pc1 := 147) (st1 := [.int (m_at v a (v 12)), .int ((a8 14) r8.toNatClampNeg)]) rfl rfl rfl ?_
        by_cases h19 : ((a8 14) r8.toNatClampNeg).toInt = (m_at v a (v 12)).toInt
        ·
          replace hh := hh.2 h19
          refine w_ine_F (pc1 := 150) rfl (by decide) rfl (show ((a8 14) r8.toNatClampNeg).toInt = (m_at v a (v 12)).toInt from h19) ?_
          refine w_mv (pc1 := 151) (st1 := [.ref 33]) rfl rfl rfl ?_
          refine w_mv (pc1 := 154) (st1 := [.ref 42]) rfl rfl rfl ?_
          refine w_mv (pc1 := 155) (st1 := [.int r8, .ref 42]) rfl rfl rfl ?_
          obtain ⟨o20a, o20b, hh⟩ := hh
          refine w_ald (x := 42) (t := 0) (A := (26000, .inl (a8 15))) (v := .int ((a8 15) r8.toNatClampNeg)) (pc1 := 156) rfl rfl rfl rfl rfl o20a o20b rfl rfl ?_
          refine w_mv (pc1 := 157) (st1 := [.ref 33, .int ((a8 15) r8.toNatClampNeg)]) rfl rfl rfl ?_
          refine w_mv (pc1 := 158) (st1 := [.ref 33, .ref 33, .int ((a8 15) r8.toNatClampNeg)]) rfl rfl rfl ?_
          refine w_mv (pc1 := 161) (st1 := [.int (v8 12), .ref 33, .int ((a8 15) r8.toNatClampNeg)]) rfl rfl rfl ?_
          refine w_call (M' := sM_145) (vals := [.ref 33, .int (v8 12)]) (rest := [.int ((a8 15) r8.toNatClampNeg)]) (lv' := [(0, .ref 33), (1, .int (v8 12))]) rfl rfl rfl rfl rfl rfl rfl rfl rfl rfl ?_
          refine hh A B _ dc ds _ (fun r21 v21 a21 hh => ?_)
          show s_kont _ _ _ _ _ _ _ (.inl (some (.int r21))) (mH A B v21 a21) dc ds
          refine w_ki (pc1 := 164) rfl ?_
          by_cases h22 : ((a8 15) r8.toNatClampNeg).toInt = r21.toInt
          ·
            replace hh := hh.1 h22
            refine w_ieq_T (pc1 := 169) rfl rfl (show ((a8 15) r8.toNatClampNeg).toInt = r21.toInt from h22) ?_
            refine w_mv (pc1 := 170) (st1 := [.ref 33]) rfl rfl rfl ?_
            refine w_mv (pc1 := 171) (st1 := [.ref 33, .ref 33]) rfl rfl rfl ?_
            refine w_mv (pc1 := 174) (st1 := [.int (v21 12), .ref 33]) rfl rfl rfl ?_
            refine w_mv (pc1 := 175) (st1 := [.int 1, .int (v21 12), .ref 33]) rfl rfl rfl ?_
            refine w_mv (pc1 := 176) (st1 := [.int (v21 12 + 1), .ref 33]) rfl rfl rfl ?_
            refine w_st (pc1 := 179) (st1 := []) (hs1 := mH A B (va_up v21 12 (v21 12 + 1)) a21) (dc1 := 0) (ds1 := 0) (dc2 := dc) (ds2 := ds) rfl rfl rfl rfl rfl ?_
            refine w_mv (pc1 := 180) (st1 := [.int 1]) rfl rfl rfl ?_
            exact sx_wp.stop rfl rfl rfl (hP 1 _ _ hh)
          ·
            replace hh := hh.2 h22
            refine w_ieq_F (pc1 := 167) rfl (by decide) rfl (show ((a8 15) r8.toNatClampNeg).toInt ≠ r21.toInt from h22) ?_
            refine w_mv (pc1 := 168) (st1 := [.int 0]) rfl rfl rfl ?_
            exact sx_wp.stop rfl rfl rfl (hP 0 _ _ hh)
        ·
          replace hh := hh.1 h19
          refine w_ine_T (pc1 := 167) rfl rfl (show ((a8 14) r8.toNatClampNeg).toInt ≠ (m_at v a (v 12)).toInt from h19) ?_
          refine w_mv (pc1 := 168) (st1 := [.int 0]) rfl rfl rfl ?_
          exact sx_wp.stop rfl rfl rfl (hP 0 _ _ hh)
    ·
      replace hh := hh.2 (Int.not_le.mp h9)
      refine w_zge_F (pc1 := 77) rfl (by decide) rfl (show r8.toInt < 0 from (Int.not_le.mp h9)) ?_
      refine w_mv (pc1 := 78) (st1 := [.int r8]) rfl rfl rfl ?_
      exact sx_wp.stop rfl rfl rfl (hP r8 _ _ hh)
set_option maxRecDepth 20000 in
set_option maxHeartbeats 4000000 in
theorem r_141_0 {p1 : Int32} {p2 : Int32} {v : Nat → Int32} {a : Nat → Nat → Int32} {K : Int32 → (Nat → Int32) → (Nat → Nat → Int32) → Prop} (hh : mT 2 sM_141 16 [(0, .ref 33), (1, .int p1), (2, .int p2)] [] (va_up (va_up v 46 0) 45 1) (va_up (va_up a 31 (upd (a 31) 0 p1)) 32 (upd (a 32) 0 p2)) K) : mT 2 sM_141 0 [(0, .ref 33), (1, .int p1), (2, .int p2)] [] v a K := by
  intro A B d dc ds P hP
  refine w_mv (pc1 := 1) (st1 := [.ref 33]) rfl rfl rfl ?_
  refine w_mv (pc1 := 2) (st1 := [.int 0, .ref 33]) rfl rfl rfl ?_
  refine w_st (pc1 := 5) (st1 := []) (hs1 := mH A B (va_up v 45 0) a) (dc1 := 0) (ds1 := 0) (dc2 := dc) (ds2 := ds) rfl rfl rfl rfl rfl ?_
  refine w_mv (pc1 := 6) (st1 := [.ref 33]) rfl rfl rfl ?_
  refine w_mv (pc1 := 7) (st1 := [.int 0, .ref 33]) rfl rfl rfl ?_
  refine w_st (pc1 := 10) (st1 := []) (hs1 := mH A B (va_up (va_up v 45 0) 46 0) a) (dc1 := 0) (ds1 := 0) (dc2 := dc) (ds2 := ds) rfl rfl rfl rfl rfl ?_
  refine w_mv (pc1 := 11) (st1 := [.ref 33]) rfl rfl rfl ?_
  refine w_mv (pc1 := 12) (st1 := [.int p1, .ref 33]) rfl rfl rfl ?_
  refine w_mv (pc1 := 13) (st1 := [.int p2, .int p1, .ref 33]) rfl rfl rfl ?_
  refine w_call (M' := sM_142) (vals := [.ref 33, .int p1, .int p2]) (rest := []) (lv' := [(0, .ref 33), (1, .int p1), (2, .int p2)]) rfl rfl rfl rfl rfl rfl rfl rfl rfl rfl ?_
  refine w_mv (pc1 := 1) (st1 := [.ref 33]) rfl rfl rfl ?_
  refine w_mv (pc1 := 4) (st1 := [.ref 58]) rfl rfl rfl ?_
  refine w_mv (pc1 := 5) (st1 := [.ref 33, .ref 58]) rfl rfl rfl ?_
  refine w_mv (pc1 := 8) (st1 := [.int 0, .ref 58]) rfl rfl rfl ?_
  refine w_mv (pc1 := 9) (st1 := [.int p1, .int 0, .ref 58]) rfl rfl rfl ?_
  refine w_ast (x := 58) (t := 0) (n := 200) (f := (a 31)) (ty := .int) (nw := fun x => x) (pc1 := 10) (hs1 := mH A B (va_up (va_up v 45 0) 46 0) (va_up a 31 (upd (a 31) 0 p1))) rfl rfl rfl rfl rfl rfl (by decide) (by decide) rfl mst_31 ?_
  refine w_mv (pc1 := 11) (st1 := [.ref 33]) rfl rfl rfl ?_
  refine w_mv (pc1 := 14) (st1 := [.ref 59]) rfl rfl rfl ?_
  refine w_mv (pc1 := 15) (st1 := [.ref 33, .ref 59]) rfl rfl rfl ?_
  refine w_mv (pc1 := 18) (st1 := [.int 0, .ref 59]) rfl rfl rfl ?_
  refine w_mv (pc1 := 19) (st1 := [.int p2, .int 0, .ref 59]) rfl rfl rfl ?_
  refine w_ast (x := 59) (t := 0) (n := 200) (f := (a 32)) (ty := .int) (nw := fun x => x) (pc1 := 20) (hs1 := mH A B (va_up (va_up v 45 0) 46 0) (va_up (va_up a 31 (upd (a 31) 0 p1)) 32 (upd (a 32) 0 p2))) rfl rfl rfl rfl rfl rfl (by decide) (by decide) rfl mst_32 ?_
  refine w_mv (pc1 := 21) (st1 := [.ref 33]) rfl rfl rfl ?_
  refine w_mv (pc1 := 22) (st1 := [.ref 33, .ref 33]) rfl rfl rfl ?_
  refine w_mv (pc1 := 25) (st1 := [.int 0, .ref 33]) rfl rfl rfl ?_
  refine w_mv (pc1 := 26) (st1 := [.int 1, .int 0, .ref 33]) rfl rfl rfl ?_
  refine w_mv (pc1 := 27) (st1 := [.int 1, .ref 33]) rfl rfl rfl ?_
  refine w_st (pc1 := 30) (st1 := []) (hs1 := mH A B (va_up (va_up v 46 0) 45 1) (va_up (va_up a 31 (upd (a 31) 0 p1)) 32 (upd (a 32) 0 p2))) (dc1 := 0) (ds1 := 0) (dc2 := dc) (ds2 := ds) rfl rfl rfl rfl rfl ?_
  refine w_vret (pc1 := 16) rfl rfl rfl ?_
  refine w_wk (l1 := [(0, .ref 33), (1, .int p1), (2, .int p2)]) rfl ⟨rfl, rfl, rfl, trivial⟩ ?_
  exact hh A B d dc ds P hP
set_option maxRecDepth 20000 in
set_option maxHeartbeats 4000000 in
theorem r_141_16 {p1 : Int32} {p2 : Int32} {v : Nat → Int32} {a : Nat → Nat → Int32} {K : Int32 → (Nat → Int32) → (Nat → Nat → Int32) → Prop} (hh : (((v 45).toInt ≤ 0 → K 1 v a) ∧ (0 < (v 45).toInt → (((v 46).toInt ≠ 60 → 0 ≤ (v 45 - 1).toInt ∧ (v 45 - 1).toInt < 200 ∧ mT 0 sM_136 0 [(0, .ref 33), (1, .int ((a 31) (v 45 - 1).toNatClampNeg))] [] (va_up (va_up v 46 (v 46 + 1)) 45 (v 45 - 1)) a (fun r4 v4 a4 => 0 ≤ (v4 45).toInt ∧ (v4 45).toInt < 200 ∧ mT 0 sM_136 0 [(0, .ref 33), (1, .int ((a4 32) (v4 45).toNatClampNeg))] [] v4 a4 (fun r6 v6 a6 => ((r4.toInt < 0 → ((r4.toInt ≠ r6.toInt → ((0 ≤ r4.toInt → K r6 v6 a6) ∧ (r4.toInt < 0 → K r4 v6 a6))) ∧ (r4.toInt = r6.toInt → mT 2 sM_141 16 [(0, .ref 33), (1, .int p1), (2, .int p2)] [] v6 a6 K))) ∧ (0 ≤ r4.toInt → ((0 ≤ r6.toInt → mT 1 sM_143 0 [(0, .ref 33), (1, .int r4), (2, .int r6)] [] v6 a6 (fun r11 v11 a11 => ((r11.toInt ≠ 0 → mT 2 sM_141 16 [(0, .ref 33), (1, .int p1), (2, .int p2)] [] v11 a11 K) ∧ (r11.toInt = 0 → K 0 v11 a11)))) ∧ (r6.toInt < 0 → ((r4.toInt ≠ r6.toInt → ((0 ≤ r4.toInt → K r6 v6 a6) ∧ (r4.toInt < 0 → K r4 v6 a6))) ∧ (r4.toInt = r6.toInt → mT 2 sM_141 16 [(0, .ref 33), (1, .int p1), (2, .int p2)] [] v6 a6 K))))))))) ∧ ((v 46).toInt = 60 → K 2147483646 v a))))) : mT 2 sM_141 16 [(0, .ref 33), (1, .int p1), (2, .int p2)] [] v a K := by
  intro A B d dc ds P hP
  refine w_mv (pc1 := 17) (st1 := [.ref 33]) rfl rfl rfl ?_
  refine w_mv (pc1 := 20) (st1 := [.int (v 45)]) rfl rfl rfl ?_
  by_cases h1 : (v 45).toInt ≤ 0
  ·
    replace hh := hh.1 h1
    refine w_zle_T (pc1 := 128) rfl rfl (show (v 45).toInt ≤ 0 from h1) ?_
    refine w_mv (pc1 := 129) (st1 := [.int 1]) rfl rfl rfl ?_
    exact sx_wp.stop rfl rfl rfl (hP 1 _ _ hh)
  ·
    replace hh := hh.2 (Int.not_le.mp h1)
    refine w_zle_F (pc1 := 23) rfl (by decide) rfl (show 0 < (v 45).toInt from (Int.not_le.mp h1)) ?_
    refine w_mv (pc1 := 24) (st1 := [.ref 33]) rfl rfl rfl ?_
    refine w_mv (pc1 := 27) (st1 := [.int (v 46)]) rfl rfl rfl ?_
    refine w_mv (pc1 := 29) (st1 := [.int 60, .int (v 46)]) rfl rfl rfl ?_
    by_cases h2 : (v 46).toInt = 60
    ·
      replace hh := hh.2 h2
      refine w_ine_F (pc1 := 32) rfl (by decide) rfl (show (v 46).toInt = 60 from h2) ?_
      refine w_mv (pc1 := 34) (st1 := [.int 2147483646]) rfl rfl rfl ?_
      exact sx_wp.stop rfl rfl rfl (hP 2147483646 _ _ hh)
    ·
      replace hh := hh.1 h2
      refine w_ine_T (pc1 := 35) rfl rfl (show (v 46).toInt ≠ 60 from h2) ?_
      refine w_mv (pc1 := 36) (st1 := [.ref 33]) rfl rfl rfl ?_
      refine w_mv (pc1 := 37) (st1 := [.ref 33, .ref 33]) rfl rfl rfl ?_
      refine w_mv (pc1 := 40) (st1 := [.int (v 46), .ref 33]) rfl rfl rfl ?_
      refine w_mv (pc1 := 41) (st1 := [.int 1, .int (v 46), .ref 33]) rfl rfl rfl ?_
      refine w_mv (pc1 := 42) (st1 := [.int (v 46 + 1), .ref 33]) rfl rfl rfl ?_
      refine w_st (pc1 := 45) (st1 := []) (hs1 := mH A B (va_up v 46 (v 46 + 1)) a) (dc1 := 0) (ds1 := 0) (dc2 := dc) (ds2 := ds) rfl rfl rfl rfl rfl ?_
      refine w_mv (pc1 := 46) (st1 := [.ref 33]) rfl rfl rfl ?_
      refine w_mv (pc1 := 47) (st1 := [.ref 33, .ref 33]) rfl rfl rfl ?_
      refine w_mv (pc1 := 50) (st1 := [.int (v 45), .ref 33]) rfl rfl rfl ?_
      refine w_mv (pc1 := 51) (st1 := [.int 1, .int (v 45), .ref 33]) rfl rfl rfl ?_
      refine w_mv (pc1 := 52) (st1 := [.int (v 45 - 1), .ref 33]) rfl rfl rfl ?_
      refine w_st (pc1 := 55) (st1 := []) (hs1 := mH A B (va_up (va_up v 46 (v 46 + 1)) 45 (v 45 - 1)) a) (dc1 := 0) (ds1 := 0) (dc2 := dc) (ds2 := ds) rfl rfl rfl rfl rfl ?_
      refine w_mv (pc1 := 56) (st1 := [.ref 33]) rfl rfl rfl ?_
      refine w_mv (pc1 := 57) (st1 := [.ref 33, .ref 33]) rfl rfl rfl ?_
      refine w_mv (pc1 := 60) (st1 := [.ref 58, .ref 33]) rfl rfl rfl ?_
      refine w_mv (pc1 := 61) (st1 := [.ref 33, .ref 58, .ref 33]) rfl rfl rfl ?_
      refine w_mv (pc1 := 64) (st1 := [.int (v 45 - 1), .ref 58, .ref 33]) rfl rfl rfl ?_
      obtain ⟨o3a, o3b, hh⟩ := hh
      refine w_ald (x := 58) (t := 0) (A := (200, .inl (a 31))) (v := .int ((a 31) (v 45 - 1).toNatClampNeg)) (pc1 := 65) rfl rfl rfl rfl rfl o3a o3b rfl rfl ?_
      refine w_call (M' := sM_136) (vals := [.ref 33, .int ((a 31) (v 45 - 1).toNatClampNeg)]) (rest := []) (lv' := [(0, .ref 33), (1, .int ((a 31) (v 45 - 1).toNatClampNeg))]) rfl rfl rfl rfl rfl rfl rfl rfl rfl rfl ?_
      refine hh A B _ dc ds _ (fun r4 v4 a4 hh => ?_)
      show s_kont _ _ _ _ _ _ _ (.inl (some (.int r4))) (mH A B v4 a4) dc ds
      refine w_ki (pc1 := 68) rfl ?_
      refine w_mv (pc1 := 69) (lv1 := [(3, .int r4), (0, .ref 33), (1, .int p1), (2, .int p2)]) (st1 := []) rfl rfl rfl ?_
      refine w_mv (pc1 := 70) (st1 := [.ref 33]) rfl rfl rfl ?_
      refine w_mv (pc1 := 71) (st1 := [.ref 33, .ref 33]) rfl rfl rfl ?_
      refine w_mv (pc1 := 74) (st1 := [.ref 59, .ref 33]) rfl rfl rfl ?_
      refine w_mv (pc1 := 75) (st1 := [.ref 33, .ref 59, .ref 33]) rfl rfl rfl ?_
      refine w_mv (pc1 := 78) (st1 := [.int (v4 45), .ref 59, .ref 33]) rfl rfl rfl ?_
      obtain ⟨o5a, o5b, hh⟩ := hh
      refine w_ald (x := 59) (t := 0) (A := (200, .inl (a4 32))) (v := .int ((a4 32) (v4 45).toNatClampNeg)) (pc1 := 79) rfl rfl rfl rfl rfl o5a o5b rfl rfl ?_
      refine w_call (M' := sM_136) (vals := [.ref 33, .int ((a4 32) (v4 45).toNatClampNeg)]) (rest := []) (lv' := [(0, .ref 33), (1, .int ((a4 32) (v4 45).toNatClampNeg))]) rfl rfl rfl rfl rfl rfl rfl rfl rfl rfl ?_
      refine hh A B _ dc ds _ (fun r6 v6 a6 hh => ?_)
      show s_kont _ _ _ _ _ _ _ (.inl (some (.int r6))) (mH A B v6 a6) dc ds
      refine w_ki (pc1 := 82) rfl ?_
      refine w_mv (pc1 := 84) (lv1 := [(4, .int r6), (3, .int r4), (0, .ref 33), (1, .int p1), (2, .int p2)]) (st1 := []) rfl rfl rfl ?_
      refine w_mv (pc1 := 85) (st1 := [.int r4]) rfl rfl rfl ?_
      by_cases h7 : r4.toInt < 0
      ·
        replace hh := hh.1 h7
        refine w_zlt_T (pc1 := 93) rfl rfl (show r4.toInt < 0 from h7) ?_
        refine w_mv (pc1 := 94) (st1 := [.int r4]) rfl rfl rfl ?_
        refine w_mv (pc1 := 96) (st1 := [.int r6, .int r4]) rfl rfl rfl ?_
        by_cases h8 : r4.toInt = r6.toInt
        ·
          replace hh := hh.2 h8
          refine w_ine_F (pc1 := 99) rfl (by decide) rfl (show r4.toInt = r6.toInt from h8) ?_
          refine w_mv (pc1 := 16) (st1 := []) rfl rfl rfl ?_
          refine w_wk (l1 := [(0, .ref 33), (1, .int p1), (2, .int p2)]) rfl ⟨rfl, rfl, rfl, trivial⟩ ?_
          exact hh A B d dc ds P hP
        ·
          replace hh := hh.1 h8
          refine w_ine_T (pc1 := 102) rfl rfl (show r4.toInt ≠ r6.toInt from h8) ?_
          refine w_mv (pc1 := 103) (st1 := [.int r4]) rfl rfl rfl ?_
          by_cases h9 : 0 ≤ r4.toInt
          ·
            replace hh := hh.1 h9
            refine w_zge_T (pc1 := 110) rfl rfl (show 0 ≤ r4.toInt from h9) ?_
            refine w_mv (pc1 := 112) (st1 := [.int r6]) rfl rfl rfl ?_
            exact sx_wp.stop rfl rfl rfl (hP r6 _ _ hh)
          ·
            replace hh := hh.2 (Int.not_le.mp h9)
            refine w_zge_F (pc1 := 106) rfl (by decide) rfl (show r4.toInt < 0 from (Int.not_le.mp h9)) ?_
            refine w_mv (pc1 := 107) (st1 := [.int r4]) rfl rfl rfl ?_
            refine w_mv (pc1 := 112) (st1 := [.int r4]) rfl rfl rfl ?_
            exact sx_wp.stop rfl rfl rfl (hP r4 _ _ hh)
      ·
        replace hh := hh.2 (Int.not_lt.mp h7)
        refine w_zlt_F (pc1 := 88) rfl (by decide) rfl (show 0 ≤ r4.toInt from (Int.not_lt.mp h7)) ?_
        refine w_mv (pc1 := 90) (st1 := [.int r6]) rfl rfl rfl ?_
        by_cases h10 : 0 ≤ r6.toInt
        ·
          replace hh := hh.1 h10
          refine w_zge_T (pc1 := 113) rfl rfl (show 0 ≤ r6.toInt from h10) ?_
          refine w_mv (pc1 := 114) (st1 := [.ref 33]) rfl rfl rfl ?_
          refine w_mv (pc1 := 115) (st1 := [.int r4, .ref 33]) rfl rfl rfl ?_
          refine w_mv (pc1 := 117) (st1 := [.int r6, .int r4, .ref 33]) rfl rfl rfl ?_
          refine w_call (M' := sM_143) (vals := [.ref 33, .int r4, .int r6]) (rest := []) (lv' := [(0, .ref 33), (1, .int r4), (2, .int r6)]) rfl rfl rfl rfl rfl rfl rfl rfl rfl rfl ?_
          refine hh A B _ dc ds _ (fun r11 v11 a11 hh => ?_)
          show s_kont _ _ _ _ _ _ _ (.inl (some (.int r11))) (mH A B v11 a11) dc ds
          refine w_ki (pc1 := 120) rfl ?_
          by_cases h12 : r11.toInt = 0
          ·
            replace hh := hh.2 h12
            refine w_zne_F (pc1 := 123) rfl (by decide) rfl (show r11.toInt = 0 from h12) ?_
            refine w_mv (pc1 := 124) (st1 := [.int 0]) rfl rfl rfl ?_
            exact sx_wp.stop rfl rfl rfl (hP 0 _ _ hh)
          ·
            replace hh := hh.1 h12
            refine w_zne_T (pc1 := 125) rfl rfl (show r11.toInt ≠ 0 from h12) ?_
            refine w_mv (pc1 := 16) (st1 := []) rfl rfl rfl ?_
            refine w_wk (l1 := [(0, .ref 33), (1, .int p1), (2, .int p2)]) rfl ⟨rfl, rfl, rfl, trivial⟩ ?_
            exact hh A B d dc ds P hP
        ·
          replace hh := hh.2 (Int.not_le.mp h10)
          refine w_zge_F (pc1 := 93) rfl (by decide) rfl (show r6.toInt < 0 from (Int.not_le.mp h10)) ?_
          refine w_mv (pc1 := 94) (st1 := [.int r4]) rfl rfl rfl ?_
          refine w_mv (pc1 := 96) (st1 := [.int r6, .int r4]) rfl rfl rfl ?_
          by_cases h13 : r4.toInt = r6.toInt
          ·
            replace hh := hh.2 h13
            refine w_ine_F (pc1 := 99) rfl (by decide) rfl (show r4.toInt = r6.toInt from h13) ?_
            refine w_mv (pc1 := 16) (st1 := []) rfl rfl rfl ?_
            refine w_wk (l1 := [(0, .ref 33), (1, .int p1), (2, .int p2)]) rfl ⟨rfl, rfl, rfl, trivial⟩ ?_
            exact hh A B d dc ds P hP
          ·
            replace hh := hh.1 h13
            refine w_ine_T (pc1 := 102) rfl rfl (show r4.toInt ≠ r6.toInt from h13) ?_
            refine w_mv (pc1 := 103) (st1 := [.int r4]) rfl rfl rfl ?_
            by_cases h14 : 0 ≤ r4.toInt
            ·
              replace hh := hh.1 h14
              refine w_zge_T (pc1 := 110) rfl rfl (show 0 ≤ r4.toInt from h14) ?_
              refine w_mv (pc1 := 112) (st1 := [.int r6]) rfl rfl rfl ?_
              exact sx_wp.stop rfl rfl rfl (hP r6 _ _ hh)
            ·
              replace hh := hh.2 (Int.not_le.mp h14)
              refine w_zge_F (pc1 := 106) rfl (by decide) rfl (show r4.toInt < 0 from (Int.not_le.mp h14)) ?_
              refine w_mv (pc1 := 107) (st1 := [.int r4]) rfl rfl rfl ?_
              refine w_mv (pc1 := 112) (st1 := [.int r4]) rfl rfl rfl ?_
              exact sx_wp.stop rfl rfl rfl (hP r4 _ _ hh)
set_option maxRecDepth 20000 in
set_option maxHeartbeats 4000000 in
theorem r_143_0 {p1 : Int32} {p2 : Int32} {v : Nat → Int32} {a : Nat → Nat → Int32} {K : Int32 → (Nat → Int32) → (Nat → Nat → Int32) → Prop} (hh : 0 ≤ p1.toInt ∧ p1.toInt < 26000 ∧ 0 ≤ p2.toInt ∧ p2.toInt < 26000 ∧ ((((a 14) p1.toNatClampNeg).toInt ≠ ((a 14) p2.toNatClampNeg).toInt → K 0 v a) ∧ (((a 14) p1.toNatClampNeg).toInt = ((a 14) p2.toNatClampNeg).toInt → 0 ≤ p1.toInt ∧ p1.toInt < 26000 ∧ 0 ≤ p2.toInt ∧ p2.toInt < 26000 ∧ ((((a 15) p1.toNatClampNeg).toInt = ((a 15) p2.toNatClampNeg).toInt → 0 ≤ p1.toInt ∧ p1.toInt < 26000 ∧ ((((a 14) p1.toNatClampNeg).toInt ≠ 0 → 0 ≤ p1.toInt ∧ p1.toInt < 26000 ∧ mT 1 sM_143 75 [(0, .ref 33), (1, .int p1), (2, .int p2), (3, .int (((a 15) p1.toNatClampNeg) - 1))] [] v a K) ∧ (((a 14) p1.toNatClampNeg).toInt = 0 → 0 ≤ (p1 * 3).toInt ∧ (p1 * 3).toInt < 78000 ∧ 0 ≤ (p2 * 3).toInt ∧ (p2 * 3).toInt < 78000 ∧ ((((a 16) (p1 * 3).toNatClampNeg).toInt ≠ ((a 16) (p2 * 3).toNatClampNeg).toInt → K 0 v a) ∧ (((a 16) (p1 * 3).toNatClampNeg).toInt = ((a 16) (p2 * 3).toNatClampNeg).toInt → K 1 v a))))) ∧ (((a 15) p1.toNatClampNeg).toInt ≠ ((a 15) p2.toNatClampNeg).toInt → K 0 v a))))) : mT 1 sM_143 0 [(0, .ref 33), (1, .int p1), (2, .int p2)] [] v a K := by
  intro A B d dc ds P hP
  refine w_mv (pc1 := 1) (st1 := [.ref 33]) rfl rfl rfl ?_
  refine w_mv (pc1 := 4) (st1 := [.ref 41]) rfl rfl rfl ?_
  refine w_mv (pc1 := 5) (st1 := [.int p1, .ref 41]) rfl rfl rfl ?_
  obtain ⟨o1a, o1b, hh⟩ := hh
  refine w_ald (x := 41) (t := 0) (A := (26000, .inl (a 14))) (v := .int ((a 14) p1.toNatClampNeg)) (pc1 := 6) rfl rfl rfl rfl rfl o1a o1b rfl rfl ?_
  refine w_mv (pc1 := 7) (st1 := [.ref 33, .int ((a 14) p1.toNatClampNeg)]) rfl rfl rfl ?_
  refine w_mv (pc1 := 10) (st1 := [.ref 41, .int ((a 14) p1.toNatClampNeg)]) rfl rfl rfl ?_
  refine w_mv (pc1 := 11) (st1 := [.int p2, .ref 41, .int ((a 14) p1.toNatClampNeg)]) rfl rfl rfl ?_
  obtain ⟨o2a, o2b, hh⟩ := hh
  refine w_ald (x := 41) (t := 0) (A := (26000, .inl (a 14))) (v := .int ((a 14) p2.toNatClampNeg)) (pc1 := 12) rfl rfl rfl rfl rfl o2a o2b rfl rfl ?_
  by_cases h3 : ((a 14) p1.toNatClampNeg).toInt = ((a 14) p2.toNatClampNeg).toInt
  ·
    replace hh := hh.2 h3
    refine w_ine_F (pc1 := 15) rfl (by decide) rfl (show ((a 14) p1.toNatClampNeg).toInt = ((a 14) p2.toNatClampNeg).toInt from h3) ?_
    refine w_mv (pc1 := 16) (st1 := [.ref 33]) rfl rfl rfl ?_
    refine w_mv (pc1 := 19) (st1 := [.ref 42]) rfl rfl rfl ?_
    refine w_mv (pc1 := 20) (st1 := [.int p1, .ref 42]) rfl rfl rfl ?_
    obtain ⟨o4a, o4b, hh⟩ := hh
    refine w_ald (x := 42) (t := 0) (A := (26000, .inl (a 15))) (v := .int ((a 15) p1.toNatClampNeg)) (pc1 := 21) rfl rfl rfl rfl rfl o4a o4b rfl rfl ?_
    refine w_mv (pc1 := 22) (st1 := [.ref 33, .int ((a 15) p1.toNatClampNeg)]) rfl rfl rfl ?_
    refine w_mv (pc1 := 25) (st1 := [.ref 42, .int ((a 15) p1.toNatClampNeg)]) rfl rfl rfl ?_
    refine w_mv (pc1 := 26) (st1 := [.int p2, .ref 42, .int ((a 15) p1.toNatClampNeg)]) rfl rfl rfl ?_
    obtain ⟨o5a, o5b, hh⟩ := hh
    refine w_ald (x := 42) (t := 0) (A := (26000, .inl (a 15))) (v := .int ((a 15) p2.toNatClampNeg)) (pc1 := 27) rfl rfl rfl rfl rfl o5a o5b rfl rfl ?_
    by_cases h6 : ((a 15) p1.toNatClampNeg).toInt = ((a 15) p2.toNatClampNeg).toInt
    ·
      replace hh := hh.1 h6
      refine w_ieq_T (pc1 := 32) rfl rfl (show ((a 15) p1.toNatClampNeg).toInt = ((a 15) p2.toNatClampNeg).toInt from h6) ?_
      refine w_mv (pc1 := 33) (st1 := [.ref 33]) rfl rfl rfl ?_
      refine w_mv (pc1 := 36) (st1 := [.ref 41]) rfl rfl rfl ?_
      refine w_mv (pc1 := 37) (st1 := [.int p1, .ref 41]) rfl rfl rfl ?_
      obtain ⟨o7a, o7b, hh⟩ := hh
      refine w_ald (x := 41) (t := 0) (A := (26000, .inl (a 14))) (v := .int ((a 14) p1.toNatClampNeg)) (pc1 := 38) rfl rfl rfl rfl rfl o7a o7b rfl rfl ?_
      by_cases h8 : ((a 14) p1.toNatClampNeg).toInt = 0
      ·
        replace hh := hh.2 h8
        refine w_zne_F (pc1 := 41) rfl (by decide) rfl (show ((a 14) p1.toNatClampNeg).toInt = 0 from h8) ?_
        refine w_mv (pc1 := 42) (st1 := [.ref 33]) rfl rfl rfl ?_
        refine w_mv (pc1 := 45) (st1 := [.ref 43]) rfl rfl rfl ?_
        refine w_mv (pc1 := 46) (st1 := [.int p1, .ref 43]) rfl rfl rfl ?_
        refine w_mv (pc1 := 47) (st1 := [.int 3, .int p1, .ref 43]) rfl rfl rfl ?_
        refine w_mv (pc1 := 48) (st1 := [.int (p1 * 3), .ref 43]) rfl rfl rfl ?_
        obtain ⟨o9a, o9b, hh⟩ := hh
        refine w_ald (x := 43) (t := 0) (A := (78000, .inl (a 16))) (v := .int ((a 16) (p1 * 3).toNatClampNeg)) (pc1 := 49) rfl rfl rfl rfl rfl o9a o9b rfl rfl ?_
        refine w_mv (pc1 := 50) (st1 := [.ref 33, .int ((a 16) (p1 * 3).toNatClampNeg)]) rfl rfl rfl ?_
        refine w_mv (pc1 := 53) (st1 := [.ref 43, .int ((a 16) (p1 * 3).toNatClampNeg)]) rfl rfl rfl ?_
        refine w_mv (pc1 := 54) (st1 := [.int p2, .ref 43, .int ((a 16) (p1 * 3).toNatClampNeg)]) rfl rfl rfl ?_
        refine w_mv (pc1 := 55) (st1 := [.int 3, .int p2, .ref 43, .int ((a 16) (p1 * 3).toNatClampNeg)]) rfl rfl rfl ?_
        refine w_mv (pc1 := 56) (st1 := [.int (p2 * 3), .ref 43, .int ((a 16) (p1 * 3).toNatClampNeg)]) rfl rfl rfl ?_
        obtain ⟨o10a, o10b, hh⟩ := hh
        refine w_ald (x := 43) (t := 0) (A := (78000, .inl (a 16))) (v := .int ((a 16) (p2 * 3).toNatClampNeg)) (pc1 := 57) rfl rfl rfl rfl rfl o10a o10b rfl rfl ?_
        by_cases h11 : ((a 16) (p1 * 3).toNatClampNeg).toInt = ((a 16) (p2 * 3).toNatClampNeg).toInt
        ·
          replace hh := hh.2 h11
          refine w_ine_F (pc1 := 60) rfl (by decide) rfl (show ((a 16) (p1 * 3).toNatClampNeg).toInt = ((a 16) (p2 * 3).toNatClampNeg).toInt from h11) ?_
          refine w_mv (pc1 := 61) (st1 := [.int 1]) rfl rfl rfl ?_
          refine w_mv (pc1 := 65) (st1 := [.int 1]) rfl rfl rfl ?_
          exact sx_wp.stop rfl rfl rfl (hP 1 _ _ hh)
        ·
          replace hh := hh.1 h11
          refine w_ine_T (pc1 := 64) rfl rfl (show ((a 16) (p1 * 3).toNatClampNeg).toInt ≠ ((a 16) (p2 * 3).toNatClampNeg).toInt from h11) ?_
          refine w_mv (pc1 := 65) (st1 := [.int 0]) rfl rfl rfl ?_
          exact sx_wp.stop rfl rfl rfl (hP 0 _ _ hh)
      ·
        replace hh := hh.1 h8
        refine w_zne_T (pc1 := 66) rfl rfl (show ((a 14) p1.toNatClampNeg).toInt ≠ 0 from h8) ?_
        refine w_mv (pc1 := 67) (st1 := [.ref 33]) rfl rfl rfl ?_
        refine w_mv (pc1 := 70) (st1 := [.ref 42]) rfl rfl rfl ?_
        refine w_mv (pc1 := 71) (st1 := [.int p1, .ref 42]) rfl rfl rfl ?_
        obtain ⟨o12a, o12b, hh⟩ := hh
        refine w_ald (x := 42) (t := 0) (A := (26000, .inl (a 15))) (v := .int ((a 15) p1.toNatClampNeg)) (pc1 := 72) rfl rfl rfl rfl rfl o12a o12b rfl rfl ?_
        refine w_mv (pc1 := 73) (st1 := [.int 1, .int ((a 15) p1.toNatClampNeg)]) rfl rfl rfl ?_
        refine w_mv (pc1 := 74) (st1 := [.int (((a 15) p1.toNatClampNeg) - 1)]) rfl rfl rfl ?_
        refine w_mv (pc1 := 75) (lv1 := [(3, .int (((a 15) p1.toNatClampNeg) - 1)), (0, .ref 33), (1, .int p1), (2, .int p2)]) (st1 := []) rfl rfl rfl ?_
        refine w_wk (l1 := [(0, .ref 33), (1, .int p1), (2, .int p2), (3, .int (((a 15) p1.toNatClampNeg) - 1))]) rfl ⟨rfl, rfl, rfl, rfl, trivial⟩ ?_
        exact hh A B d dc ds P hP
    ·
      replace hh := hh.2 h6
      refine w_ieq_F (pc1 := 30) rfl (by decide) rfl (show ((a 15) p1.toNatClampNeg).toInt ≠ ((a 15) p2.toNatClampNeg).toInt from h6) ?_
      refine w_mv (pc1 := 31) (st1 := [.int 0]) rfl rfl rfl ?_
      exact sx_wp.stop rfl rfl rfl (hP 0 _ _ hh)
  ·
    replace hh := hh.1 h3
    refine w_ine_T (pc1 := 30) rfl rfl (show ((a 14) p1.toNatClampNeg).toInt ≠ ((a 14) p2.toNatClampNeg).toInt from h3) ?_
    refine w_mv (pc1 := 31) (st1 := [.int 0]) rfl rfl rfl ?_
    exact sx_wp.stop rfl rfl rfl (hP 0 _ _ hh)
set_option maxRecDepth 20000 in
set_option maxHeartbeats 4000000 in
theorem r_143_75 {p1 : Int32} {p2 : Int32} {p3 : Int32} {v : Nat → Int32} {a : Nat → Nat → Int32} {K : Int32 → (Nat → Int32) → (Nat → Nat → Int32) → Prop} (hh : ((p3.toInt < 0 → K 1 v a) ∧ (0 ≤ p3.toInt → 0 ≤ ((p1 * 3) + p3).toInt ∧ ((p1 * 3) + p3).toInt < 78000 ∧ 0 ≤ ((p2 * 3) + p3).toInt ∧ ((p2 * 3) + p3).toInt < 78000 ∧ 0 ≤ (v 45).toInt ∧ (v 45).toInt < 200 ∧ 0 ≤ (v 45).toInt ∧ (v 45).toInt < 200 ∧ mT 1 sM_143 75 [(0, .ref 33), (1, .int p1), (2, .int p2), (3, .int (p3 + (-1)))] [] (va_up v 45 (v 45 + 1)) (va_up (va_up a 31 (upd (a 31) (v 45).toNatClampNeg ((a 16) ((p1 * 3) + p3).toNatClampNeg))) 32 (upd (a 32) (v 45).toNatClampNeg ((a 16) ((p2 * 3) + p3).toNatClampNeg))) K))) : mT 1 sM_143 75 [(0, .ref 33), (1, .int p1), (2, .int p2), (3, .int p3)] [] v a K := by
  intro A B d dc ds P hP
  refine w_mv (pc1 := 76) (st1 := [.int p3]) rfl rfl rfl ?_
  by_cases h1 : p3.toInt < 0
  ·
    replace hh := hh.1 h1
    refine w_zlt_T (pc1 := 109) rfl rfl (show p3.toInt < 0 from h1) ?_
    refine w_mv (pc1 := 110) (st1 := [.int 1]) rfl rfl rfl ?_
    exact sx_wp.stop rfl rfl rfl (hP 1 _ _ hh)
  ·
    replace hh := hh.2 (Int.not_lt.mp h1)
    refine w_zlt_F (pc1 := 79) rfl (by decide) rfl (show 0 ≤ p3.toInt from (Int.not_lt.mp h1)) ?_
    refine w_mv (pc1 := 80) (st1 := [.ref 33]) rfl rfl rfl ?_
    refine w_mv (pc1 := 81) (st1 := [.ref 33, .ref 33]) rfl rfl rfl ?_
    refine w_mv (pc1 := 84) (st1 := [.ref 43, .ref 33]) rfl rfl rfl ?_
    refine w_mv (pc1 := 85) (st1 := [.int p1, .ref 43, .ref 33]) rfl rfl rfl ?_
    refine w_mv (pc1 := 86) (st1 := [.int 3, .int p1, .ref 43, .ref 33]) rfl rfl rfl ?_
    refine w_mv (pc1 := 87) (st1 := [.int (p1 * 3), .ref 43, .ref 33]) rfl rfl rfl ?_
    refine w_mv (pc1 := 88) (st1 := [.int p3, .int (p1 * 3), .ref 43, .ref 33]) rfl rfl rfl ?_
    refine w_mv (pc1 := 89) (st1 := [.int ((p1 * 3) + p3), .ref 43, .ref 33]) rfl rfl rfl ?_
    obtain ⟨o2a, o2b, hh⟩ := hh
    refine w_ald (x := 43) (t := 0) (A := (78000, .inl (a 16))) (v := .int ((a 16) ((p1 * 3) + p3).toNatClampNeg)) (pc1 := 90) rfl rfl rfl rfl rfl o2a o2b rfl rfl ?_
    refine w_mv (pc1 := 91) (st1 := [.ref 33, .int ((a 16) ((p1 * 3) + p3).toNatClampNeg), .ref 33]) rfl rfl rfl ?_
    refine w_mv (pc1 := 94) (st1 := [.ref 43, .int ((a 16) ((p1 * 3) + p3).toNatClampNeg), .ref 33]) rfl rfl rfl ?_
    refine w_mv (pc1 := 95) (st1 := [.int p2, .ref 43, .int ((a 16) ((p1 * 3) + p3).toNatClampNeg), .ref 33]) rfl rfl rfl ?_
    refine w_mv (pc1 := 96) (st1 := [.int 3, .int p2, .ref 43, .int ((a 16) ((p1 * 3) + p3).toNatClampNeg), .ref 33]) rfl rfl rfl ?_
    refine w_mv (pc1 := 97) (st1 := [.int (p2 * 3), .ref 43, .int ((a 16) ((p1 * 3) + p3).toNatClampNeg), .ref 33]) rfl rfl rfl ?_
    refine w_mv (pc1 := 98) (st1 := [.int p3, .int (p2 * 3), .ref 43, .int ((a 16) ((p1 * 3) + p3).toNatClampNeg), .ref 33]) rfl rfl rfl ?_
    refine w_mv (pc1 := 99) (st1 := [.int ((p2 * 3) + p3), .ref 43, .int ((a 16) ((p1 * 3) + p3).toNatClampNeg), .ref 33]) rfl rfl rfl ?_
    obtain ⟨o3a, o3b, hh⟩ := hh
    refine w_ald (x := 43) (t := 0) (A := (78000, .inl (a 16))) (v := .int ((a 16) ((p2 * 3) + p3).toNatClampNeg)) (pc1 := 100) rfl rfl rfl rfl rfl o3a o3b rfl rfl ?_
    refine w_call (M' := sM_142) (vals := [.ref 33, .int ((a 16) ((p1 * 3) + p3).toNatClampNeg), .int ((a 16) ((p2 * 3) + p3).toNatClampNeg)]) (rest := []) (lv' := [(0, .ref 33), (1, .int ((a 16) ((p1 * 3) + p3).toNatClampNeg)), (2, .int ((a 16) ((p2 * 3) + p3).toNatClampNeg))]) rfl rfl rfl rfl rfl rfl rfl rfl rfl rfl ?_
    refine w_mv (pc1 := 1) (st1 := [.ref 33]) rfl rfl rfl ?_
    refine w_mv (pc1 := 4) (st1 := [.ref 58]) rfl rfl rfl ?_
    refine w_mv (pc1 := 5) (st1 := [.ref 33, .ref 58]) rfl rfl rfl ?_
    refine w_mv (pc1 := 8) (st1 := [.int (v 45), .ref 58]) rfl rfl rfl ?_
    refine w_mv (pc1 := 9) (st1 := [.int ((a 16) ((p1 * 3) + p3).toNatClampNeg), .int (v 45), .ref 58]) rfl rfl rfl ?_
    obtain ⟨o4a, o4b, hh⟩ := hh
    refine w_ast (x := 58) (t := 0) (n := 200) (f := (a 31)) (ty := .int) (nw := fun x => x) (pc1 := 10) (hs1 := mH A B v (va_up a 31 (upd (a 31) (v 45).toNatClampNeg ((a 16) ((p1 * 3) + p3).toNatClampNeg)))) rfl rfl rfl rfl rfl rfl o4a o4b rfl mst_31 ?_
    refine w_mv (pc1 := 11) (st1 := [.ref 33]) rfl rfl rfl ?_
    refine w_mv (pc1 := 14) (st1 := [.ref 59]) rfl rfl rfl ?_
    refine w_mv (pc1 := 15) (st1 := [.ref 33, .ref 59]) rfl rfl rfl ?_
    refine w_mv (pc1 := 18) (st1 := [.int (v 45), .ref 59]) rfl rfl rfl ?_
    refine w_mv (pc1 := 19) (st1 := [.int ((a 16) ((p2 * 3) + p3).toNatClampNeg), .int (v 45), .ref 59]) rfl rfl rfl ?_
    obtain ⟨o5a, o5b, hh⟩ := hh
    refine w_ast (x := 59) (t := 0) (n := 200) (f := (a 32)) (ty := .int) (nw := fun x => x) (pc1 := 20) (hs1 := mH A B v (va_up (va_up a 31 (upd (a 31) (v 45).toNatClampNeg ((a 16) ((p1 * 3) + p3).toNatClampNeg))) 32 (upd (a 32) (v 45).toNatClampNeg ((a 16) ((p2 * 3) + p3).toNatClampNeg)))) rfl rfl rfl rfl rfl rfl o5a o5b rfl mst_32 ?_
    refine w_mv (pc1 := 21) (st1 := [.ref 33]) rfl rfl rfl ?_
    refine w_mv (pc1 := 22) (st1 := [.ref 33, .ref 33]) rfl rfl rfl ?_
    refine w_mv (pc1 := 25) (st1 := [.int (v 45), .ref 33]) rfl rfl rfl ?_
    refine w_mv (pc1 := 26) (st1 := [.int 1, .int (v 45), .ref 33]) rfl rfl rfl ?_
    refine w_mv (pc1 := 27) (st1 := [.int (v 45 + 1), .ref 33]) rfl rfl rfl ?_
    refine w_st (pc1 := 30) (st1 := []) (hs1 := mH A B (va_up v 45 (v 45 + 1)) (va_up (va_up a 31 (upd (a 31) (v 45).toNatClampNeg ((a 16) ((p1 * 3) + p3).toNatClampNeg))) 32 (upd (a 32) (v 45).toNatClampNeg ((a 16) ((p2 * 3) + p3).toNatClampNeg)))) (dc1 := 0) (ds1 := 0) (dc2 := dc) (ds2 := ds) rfl rfl rfl rfl rfl ?_
    refine w_vret (pc1 := 103) rfl rfl rfl ?_
    refine w_mv (pc1 := 106) (lv1 := [(3, .int (p3 + (-1))), (0, .ref 33), (1, .int p1), (2, .int p2)]) (st1 := []) rfl rfl rfl ?_
    refine w_mv (pc1 := 75) (st1 := []) rfl rfl rfl ?_
    refine w_wk (l1 := [(0, .ref 33), (1, .int p1), (2, .int p2), (3, .int (p3 + (-1)))]) rfl ⟨rfl, rfl, rfl, rfl, trivial⟩ ?_
    exact hh A B d dc ds P hP
set_option maxRecDepth 20000 in
set_option maxHeartbeats 4000000 in
theorem r_145_0 {p1 : Int32} {v : Nat → Int32} {a : Nat → Nat → Int32} {K : Int32 → (Nat → Int32) → (Nat → Nat → Int32) → Prop} (hh : 0 ≤ (p1 + 1).toInt ∧ (v 13).toInt ≤ 624 ∧ (((m_at v a (p1 + 1)).toInt = 40 → mT 1 sM_145 23 [(0, .ref 33), (1, .int p1), (2, .int 0), (3, .int 1), (4, .int (p1 + 1))] [] v a K) ∧ ((m_at v a (p1 + 1)).toInt ≠ 40 → K 0 v a))) : mT 1 sM_145 0 [(0, .ref 33), (1, .int p1)] [] v a K := by
  intro A B d dc ds P hP
  refine w_mv (pc1 := 1) (st1 := [.ref 33]) rfl rfl rfl ?_
  refine w_mv (pc1 := 2) (st1 := [.int p1, .ref 33]) rfl rfl rfl ?_
  refine w_mv (pc1 := 3) (st1 := [.int 1, .int p1, .ref 33]) rfl rfl rfl ?_
  refine w_mv (pc1 := 4) (st1 := [.int (p1 + 1), .ref 33]) rfl rfl rfl ?_
  refine w_call (M' := sM_125) (vals := [.ref 33, .int (p1 + 1)]) (rest := []) (lv' := [(0, .ref 33), (1, .int (p1 + 1))]) rfl rfl rfl rfl rfl rfl rfl rfl rfl rfl ?_
  obtain ⟨o1a, o1b, hh⟩ := hh
  refine m_at_ o1a o1b ?_
  refine w_ki (pc1 := 7) rfl ?_
  refine w_mv (pc1 := 9) (st1 := [.int 40, .int (m_at v a (p1 + 1))]) rfl rfl rfl ?_
  by_cases h2 : (m_at v a (p1 + 1)).toInt = 40
  ·
    replace hh := hh.1 h2
    refine w_ieq_T (pc1 := 14) rfl rfl (show (m_at v a (p1 + 1)).toInt = 40 from h2) ?_
    refine w_mv (pc1 := 15) (st1 := [.int 0]) rfl rfl rfl ?_
    refine w_mv (pc1 := 16) (lv1 := [(2, .int 0), (0, .ref 33), (1, .int p1)]) (st1 := []) rfl rfl rfl ?_
    refine w_mv (pc1 := 17) (st1 := [.int 1]) rfl rfl rfl ?_
    refine w_mv (pc1 := 18) (lv1 := [(3, .int 1), (2, .int 0), (0, .ref 33), (1, .int p1)]) (st1 := []) rfl rfl rfl ?_
    refine w_mv (pc1 := 19) (st1 := [.int p1]) rfl rfl rfl ?_
    refine w_mv (pc1 := 20) (st1 := [.int 1, .int p1]) rfl rfl rfl ?_
    refine w_mv (pc1 := 21) (st1 := [.int (p1 + 1)]) rfl rfl rfl ?_
    refine w_mv (pc1 := 23) (lv1 := [(4, .int (p1 + 1)), (3, .int 1), (2, .int 0), (0, .ref 33), (1, .int p1)]) (st1 := []) rfl rfl rfl ?_
    refine w_wk (l1 := [(0, .ref 33), (1, .int p1), (2, .int 0), (3, .int 1), (4, .int (p1 + 1))]) rfl ⟨rfl, rfl, rfl, rfl, rfl, trivial⟩ ?_
    exact hh A B d dc ds P hP
  ·
    replace hh := hh.2 h2
    refine w_ieq_F (pc1 := 12) rfl (by decide) rfl (show (m_at v a (p1 + 1)).toInt ≠ 40 from h2) ?_
    refine w_mv (pc1 := 13) (st1 := [.int 0]) rfl rfl rfl ?_
    exact sx_wp.stop rfl rfl rfl (hP 0 _ _ hh)
set_option maxRecDepth 20000 in
set_option maxHeartbeats 4000000 in
theorem r_145_23 {p1 : Int32} {p2 : Int32} {p3 : Int32} {p4 : Int32} {v : Nat → Int32} {a : Nat → Nat → Int32} {K : Int32 → (Nat → Int32) → (Nat → Nat → Int32) → Prop} (hh : 0 ≤ p4.toInt ∧ (v 13).toInt ≤ 624 ∧ (((m_at v a p4).toInt ≠ 40 → (((m_at v a p4).toInt ≠ 41 → (((m_at v a p4).toInt ≠ 44 → ((0 < p2.toInt → mT 1 sM_145 23 [(0, .ref 33), (1, .int p1), (2, .int p2), (3, .int p3), (4, .int (p4 + 1))] [] v a K) ∧ (p2.toInt ≤ 0 → K p3 v a))) ∧ ((m_at v a p4).toInt = 44 → ((p2.toInt ≠ 1 → ((0 < p2.toInt → mT 1 sM_145 23 [(0, .ref 33), (1, .int p1), (2, .int p2), (3, .int p3), (4, .int (p4 + 1))] [] v a K) ∧ (p2.toInt ≤ 0 → K p3 v a))) ∧ (p2.toInt = 1 → ((0 < p2.toInt → mT 1 sM_145 23 [(0, .ref 33), (1, .int p1), (2, .int p2), (3, .int (p3 + 1)), (4, .int (p4 + 1))] [] v a K) ∧ (p2.toInt ≤ 0 → K (p3 + 1) v a))))))) ∧ ((m_at v a p4).toInt = 41 → (((m_at v a p4).toInt ≠ 44 → ((0 < (p2 + (-1)).toInt → mT 1 sM_145 23 [(0, .ref 33), (1, .int p1), (2, .int (p2 + (-1))), (3, .int p3), (4, .int (p4 + 1))] [] v a K) ∧ ((p2 + (-1)).toInt ≤ 0 → K p3 v a))) ∧ ((m_at v a p4).toInt = 44 → (((p2 + (-1)).toInt ≠ 1 → ((0 < (p2 + (-1)).toInt → mT 1 sM_145 23 [(0, .ref 33), (1, .int p1), (2, .int (p2 + (-1))), (3, .int p3), (4, .int (p4 + 1))] [] v a K) ∧ ((p2 + (-1)).toInt ≤ 0 → K p3 v a))) ∧ ((p2 + (-1)).toInt = 1 → ((0 < (p2 + (-1)).toInt → mT 1 sM_145 23 [(0, .ref 33), (1, .int p1), (2, .int (p2 + (-1))), (3, .int (p3 + 1)), (4, .int (p4 + 1))] [] v a K) ∧ ((p2 + (-1)).toInt ≤ 0 → K (p3 + 1) v a))))))))) ∧ ((m_at v a p4).toInt = 40 → (((m_at v a p4).toInt ≠ 41 → (((m_at v a p4).toInt ≠ 44 → ((0 < (p2 + 1).toInt → mT 1 sM_145 23 [(0, .ref 33), (1, .int p1), (2, .int (p2 + 1)), (3, .int p3), (4, .int (p4 + 1))] [] v a K) ∧ ((p2 + 1).toInt ≤ 0 → K p3 v a))) ∧ ((m_at v a p4).toInt = 44 → (((p2 + 1).toInt ≠ 1 → ((0 < (p2 + 1).toInt → mT 1 sM_145 23 [(0, .ref 33), (1, .int p1), (2, .int (p2 + 1)), (3, .int p3), (4, .int (p4 + 1))] [] v a K) ∧ ((p2 + 1).toInt ≤ 0 → K p3 v a))) ∧ ((p2 + 1).toInt = 1 → ((0 < (p2 + 1).toInt → mT 1 sM_145 23 [(0, .ref 33), (1, .int p1), (2, .int (p2 + 1)), (3, .int (p3 + 1)), (4, .int (p4 + 1))] [] v a K) ∧ ((p2 + 1).toInt ≤ 0 → K (p3 + 1) v a))))))) ∧ ((m_at v a p4).toInt = 41 → (((m_at v a p4).toInt ≠ 44 → ((0 < (p2 + 1 + (-1)).toInt → mT 1 sM_145 23 [(0, .ref 33), (1, .int p1), (2, .int (p2 + 1 + (-1))), (3, .int p3), (4, .int (p4 + 1))] [] v a K) ∧ ((p2 + 1 + (-1)).toInt ≤ 0 → K p3 v a))) ∧ ((m_at v a p4).toInt = 44 → (((p2 + 1 + (-1)).toInt ≠ 1 → ((0 < (p2 + 1 + (-1)).toInt → mT 1 sM_145 23 [(0, .ref 33), (1, .int p1), (2, .int (p2 + 1 + (-1))), (3, .int p3), (4, .int (p4 + 1))] [] v a K) ∧ ((p2 + 1 + (-1)).toInt ≤ 0 → K p3 v a))) ∧ ((p2 + 1 + (-1)).toInt = 1 → ((0 < (p2 + 1 + (-1)).toInt → mT 1 sM_145 23 [(0, .ref 33), (1, .int p1), (2, .int (p2 + 1 + (-1))), (3, .int (p3 + 1)), (4, .int (p4 + 1))] [] v a K) ∧ ((p2 + 1 + (-1)).toInt ≤ 0 → K (p3 + 1) v a))))))))))) : mT 1 sM_145 23 [(0, .ref 33), (1, .int p1), (2, .int p2), (3, .int p3), (4, .int p4)] [] v a K := by
  intro A B d dc ds P hP
  refine w_mv (pc1 := 24) (st1 := [.ref 33]) rfl rfl rfl ?_
  refine w_mv (pc1 := 26) (st1 := [.int p4, .ref 33]) rfl rfl rfl ?_
  refine w_call (M' := sM_125) (vals := [.ref 33, .int p4]) (rest := []) (lv' := [(0, .ref 33), (1, .int p4)]) rfl rfl rfl rfl rfl rfl rfl rfl rfl rfl ?_
  obtain ⟨o1a, o1b, hh⟩ := hh
  refine m_at_ o1a o1b ?_
  refine w_ki (pc1 := 29) rfl ?_
  refine w_mv (pc1 := 31) (lv1 := [(5, .int (m_at v a p4)), (0, .ref 33), (1, .int p1), (2, .int p2), (3, .int p3), (4, .int p4)]) (st1 := []) rfl rfl rfl ?_
  refine w_mv (pc1 := 33) (st1 := [.int (m_at v a p4)]) rfl rfl rfl ?_
  refine w_mv (pc1 := 35) (st1 := [.int 40, .int (m_at v a p4)]) rfl rfl rfl ?_
  by_cases h2 : (m_at v a p4).toInt = 40
  ·
    replace hh := hh.2 h2
    refine w_ine_F (pc1 := 38) rfl (by decide) rfl (show (m_at v a p4).toInt = 40 from h2) ?_
    refine w_mv (pc1 := 41) (lv1 := [(2, .int (p2 + 1)), (5, .int (m_at v a p4)), (0, .ref 33), (1, .int p1), (3, .int p3), (4, .int p4)]) (st1 := []) rfl rfl rfl ?_
    refine w_mv (pc1 := 43) (st1 := [.int (m_at v a p4)]) rfl rfl rfl ?_
    refine w_mv (pc1 := 45) (st1 := [.int 41, .int (m_at v a p4)]) rfl rfl rfl ?_
    by_cases h3 : (m_at v a p4).toInt = 41
    ·
      replace hh := hh.2 h3
      refine w_ine_F (pc1 := 48) rfl (by decide) rfl (show (m_at v a p4).toInt = 41 from h3) ?_
      refine w_mv (pc1 := 51) (lv1 := [(2, .int (p2 + 1 + (-1))), (5, .int (m_at v a p4)), (0, .ref 33), (1, .int p1), (3, .int p3), (4, .int p4)]) (st1 := []) rfl rfl rfl ?_
      refine w_mv (pc1 := 53) (st1 := [.int (m_at v a p4)]) rfl rfl rfl ?_
      refine w_mv (pc1 := 55) (st1 := [.int 44, .int (m_at v a p4)]) rfl rfl rfl ?_
      by_cases h4 : (m_at v a p4).toInt = 44
      ·
        replace hh := hh.2 h4
        refine w_ine_F (pc1 := 58) rfl (by decide) rfl (show (m_at v a p4).toInt = 44 from h4) ?_
        refine w_mv (pc1 := 59) (st1 := [.int (p2 + 1 + (-1))]) rfl rfl rfl ?_
        refine w_mv (pc1 := 60) (st1 := [.int 1, .int (p2 + 1 + (-1))]) rfl rfl rfl ?_
        by_cases h5 : (p2 + 1 + (-1)).toInt = 1
        ·
          replace hh := hh.2 h5
          refine w_ine_F (pc1 := 63) rfl (by decide) rfl (show (p2 + 1 + (-1)).toInt = 1 from h5) ?_
          refine w_mv (pc1 := 66) (lv1 := [(3, .int (p3 + 1)), (2, .int (p2 + 1 + (-1))), (5, .int (m_at v a p4)), (0, .ref 33), (1, .int p1), (4, .int p4)]) (st1 := []) rfl rfl rfl ?_
          refine w_mv (pc1 := 69) (lv1 := [(4, .int (p4 + 1)), (3, .int (p3 + 1)), (2, .int (p2 + 1 + (-1))), (5, .int (m_at v a p4)), (0, .ref 33), (1, .int p1)]) (st1 := []) rfl rfl rfl ?_
          refine w_mv (pc1 := 70) (st1 := [.int (p2 + 1 + (-1))]) rfl rfl rfl ?_
          by_cases h6 : 0 < (p2 + 1 + (-1)).toInt
          ·
            replace hh := hh.1 h6
            refine w_zgt_T (pc1 := 23) rfl rfl (show 0 < (p2 + 1 + (-1)).toInt from h6) ?_
            refine w_wk (l1 := [(0, .ref 33), (1, .int p1), (2, .int (p2 + 1 + (-1))), (3, .int (p3 + 1)), (4, .int (p4 + 1))]) rfl ⟨rfl, rfl, rfl, rfl, rfl, trivial⟩ ?_
            exact hh A B d dc ds P hP
          ·
            replace hh := hh.2 (Int.not_lt.mp h6)
            refine w_zgt_F (pc1 := 73) rfl (by decide) rfl (show (p2 + 1 + (-1)).toInt ≤ 0 from (Int.not_lt.mp h6)) ?_
            refine w_mv (pc1 := 74) (st1 := [.int (p3 + 1)]) rfl rfl rfl ?_
            exact sx_wp.stop rfl rfl rfl (hP (p3 + 1) _ _ hh)
        ·
          replace hh := hh.1 h5
          refine w_ine_T (pc1 := 66) rfl rfl (show (p2 + 1 + (-1)).toInt ≠ 1 from h5) ?_
          refine w_mv (pc1 := 69) (lv1 := [(4, .int (p4 + 1)), (2, .int (p2 + 1 + (-1))), (5, .int (m_at v a p4)), (0, .ref 33), (1, .int p1), (3, .int p3)]) (st1 := []) rfl rfl rfl ?_
          refine w_mv (pc1 := 70) (st1 := [.int (p2 + 1 + (-1))]) rfl rfl rfl ?_
          by_cases h7 : 0 < (p2 + 1 + (-1)).toInt
          ·
            replace hh := hh.1 h7
            refine w_zgt_T (pc1 := 23) rfl rfl (show 0 < (p2 + 1 + (-1)).toInt from h7) ?_
            refine w_wk (l1 := [(0, .ref 33), (1, .int p1), (2, .int (p2 + 1 + (-1))), (3, .int p3), (4, .int (p4 + 1))]) rfl ⟨rfl, rfl, rfl, rfl, rfl, trivial⟩ ?_
            exact hh A B d dc ds P hP
          ·
            replace hh := hh.2 (Int.not_lt.mp h7)
            refine w_zgt_F (pc1 := 73) rfl (by decide) rfl (show (p2 + 1 + (-1)).toInt ≤ 0 from (Int.not_lt.mp h7)) ?_
            refine w_mv (pc1 := 74) (st1 := [.int p3]) rfl rfl rfl ?_
            exact sx_wp.stop rfl rfl rfl (hP p3 _ _ hh)
      ·
        replace hh := hh.1 h4
        refine w_ine_T (pc1 := 66) rfl rfl (show (m_at v a p4).toInt ≠ 44 from h4) ?_
        refine w_mv (pc1 := 69) (lv1 := [(4, .int (p4 + 1)), (2, .int (p2 + 1 + (-1))), (5, .int (m_at v a p4)), (0, .ref 33), (1, .int p1), (3, .int p3)]) (st1 := []) rfl rfl rfl ?_
        refine w_mv (pc1 := 70) (st1 := [.int (p2 + 1 + (-1))]) rfl rfl rfl ?_
        by_cases h8 : 0 < (p2 + 1 + (-1)).toInt
        ·
          replace hh := hh.1 h8
          refine w_zgt_T (pc1 := 23) rfl rfl (show 0 < (p2 + 1 + (-1)).toInt from h8) ?_
          refine w_wk (l1 := [(0, .ref 33), (1, .int p1), (2, .int (p2 + 1 + (-1))), (3, .int p3), (4, .int (p4 + 1))]) rfl ⟨rfl, rfl, rfl, rfl, rfl, trivial⟩ ?_
          exact hh A B d dc ds P hP
        ·
          replace hh := hh.2 (Int.not_lt.mp h8)
          refine w_zgt_F (pc1 := 73) rfl (by decide) rfl (show (p2 + 1 + (-1)).toInt ≤ 0 from (Int.not_lt.mp h8)) ?_
          refine w_mv (pc1 := 74) (st1 := [.int p3]) rfl rfl rfl ?_
          exact sx_wp.stop rfl rfl rfl (hP p3 _ _ hh)
    ·
      replace hh := hh.1 h3
      refine w_ine_T (pc1 := 51) rfl rfl (show (m_at v a p4).toInt ≠ 41 from h3) ?_
      refine w_mv (pc1 := 53) (st1 := [.int (m_at v a p4)]) rfl rfl rfl ?_
      refine w_mv (pc1 := 55) (st1 := [.int 44, .int (m_at v a p4)]) rfl rfl rfl ?_
      by_cases h9 : (m_at v a p4).toInt = 44
      ·
        replace hh := hh.2 h9
        refine w_ine_F (pc1 := 58) rfl (by decide) rfl (show (m_at v a p4).toInt = 44 from h9) ?_
        refine w_mv (pc1 := 59) (st1 := [.int (p2 + 1)]) rfl rfl rfl ?_
        refine w_mv (pc1 := 60) (st1 := [.int 1, .int (p2 + 1)]) rfl rfl rfl ?_
        by_cases h10 : (p2 + 1).toInt = 1
        ·
          replace hh := hh.2 h10
          refine w_ine_F (pc1 := 63) rfl (by decide) rfl (show (p2 + 1).toInt = 1 from h10) ?_
          refine w_mv (pc1 := 66) (lv1 := [(3, .int (p3 + 1)), (2, .int (p2 + 1)), (5, .int (m_at v a p4)), (0, .ref 33), (1, .int p1), (4, .int p4)]) (st1 := []) rfl rfl rfl ?_
          refine w_mv (pc1 := 69) (lv1 := [(4, .int (p4 + 1)), (3, .int (p3 + 1)), (2, .int (p2 + 1)), (5, .int (m_at v a p4)), (0, .ref 33), (1, .int p1)]) (st1 := []) rfl rfl rfl ?_
          refine w_mv (pc1 := 70) (st1 := [.int (p2 + 1)]) rfl rfl rfl ?_
          by_cases h11 : 0 < (p2 + 1).toInt
          ·
            replace hh := hh.1 h11
            refine w_zgt_T (pc1 := 23) rfl rfl (show 0 < (p2 + 1).toInt from h11) ?_
            refine w_wk (l1 := [(0, .ref 33), (1, .int p1), (2, .int (p2 + 1)), (3, .int (p3 + 1)), (4, .int (p4 + 1))]) rfl ⟨rfl, rfl, rfl, rfl, rfl, trivial⟩ ?_
            exact hh A B d dc ds P hP
          ·
            replace hh := hh.2 (Int.not_lt.mp h11)
            refine w_zgt_F (pc1 := 73) rfl (by decide) rfl (show (p2 + 1).toInt ≤ 0 from (Int.not_lt.mp h11)) ?_
            refine w_mv (pc1 := 74) (st1 := [.int (p3 + 1)]) rfl rfl rfl ?_
            exact sx_wp.stop rfl rfl rfl (hP (p3 + 1) _ _ hh)
        ·
          replace hh := hh.1 h10
          refine w_ine_T (pc1 := 66) rfl rfl (show (p2 + 1).toInt ≠ 1 from h10) ?_
          refine w_mv (pc1 := 69) (lv1 := [(4, .int (p4 + 1)), (2, .int (p2 + 1)), (5, .int (m_at v a p4)), (0, .ref 33), (1, .int p1), (3, .int p3)]) (st1 := []) rfl rfl rfl ?_
          refine w_mv (pc1 := 70) (st1 := [.int (p2 + 1)]) rfl rfl rfl ?_
          by_cases h12 : 0 < (p2 + 1).toInt
          ·
            replace hh := hh.1 h12
            refine w_zgt_T (pc1 := 23) rfl rfl (show 0 < (p2 + 1).toInt from h12) ?_
            refine w_wk (l1 := [(0, .ref 33), (1, .int p1), (2, .int (p2 + 1)), (3, .int p3), (4, .int (p4 + 1))]) rfl ⟨rfl, rfl, rfl, rfl, rfl, trivial⟩ ?_
            exact hh A B d dc ds P hP
          ·
            replace hh := hh.2 (Int.not_lt.mp h12)
            refine w_zgt_F (pc1 := 73) rfl (by decide) rfl (show (p2 + 1).toInt ≤ 0 from (Int.not_lt.mp h12)) ?_
            refine w_mv (pc1 := 74) (st1 := [.int p3]) rfl rfl rfl ?_
            exact sx_wp.stop rfl rfl rfl (hP p3 _ _ hh)
      ·
        replace hh := hh.1 h9
        refine w_ine_T (pc1 := 66) rfl rfl (show (m_at v a p4).toInt ≠ 44 from h9) ?_
        refine w_mv (pc1 := 69) (lv1 := [(4, .int (p4 + 1)), (2, .int (p2 + 1)), (5, .int (m_at v a p4)), (0, .ref 33), (1, .int p1), (3, .int p3)]) (st1 := []) rfl rfl rfl ?_
        refine w_mv (pc1 := 70) (st1 := [.int (p2 + 1)]) rfl rfl rfl ?_
        by_cases h13 : 0 < (p2 + 1).toInt
        ·
          replace hh := hh.1 h13
          refine w_zgt_T (pc1 := 23) rfl rfl (show 0 < (p2 + 1).toInt from h13) ?_
          refine w_wk (l1 := [(0, .ref 33), (1, .int p1), (2, .int (p2 + 1)), (3, .int p3), (4, .int (p4 + 1))]) rfl ⟨rfl, rfl, rfl, rfl, rfl, trivial⟩ ?_
          exact hh A B d dc ds P hP
        ·
          replace hh := hh.2 (Int.not_lt.mp h13)
          refine w_zgt_F (pc1 := 73) rfl (by decide) rfl (show (p2 + 1).toInt ≤ 0 from (Int.not_lt.mp h13)) ?_
          refine w_mv (pc1 := 74) (st1 := [.int p3]) rfl rfl rfl ?_
          exact sx_wp.stop rfl rfl rfl (hP p3 _ _ hh)
  ·
    replace hh := hh.1 h2
    refine w_ine_T (pc1 := 41) rfl rfl (show (m_at v a p4).toInt ≠ 40 from h2) ?_
    refine w_mv (pc1 := 43) (st1 := [.int (m_at v a p4)]) rfl rfl rfl ?_
    refine w_mv (pc1 := 45) (st1 := [.int 41, .int (m_at v a p4)]) rfl rfl rfl ?_
    by_cases h14 : (m_at v a p4).toInt = 41
    ·
      replace hh := hh.2 h14
      refine w_ine_F (pc1 := 48) rfl (by decide) rfl (show (m_at v a p4).toInt = 41 from h14) ?_
      refine w_mv (pc1 := 51) (lv1 := [(2, .int (p2 + (-1))), (5, .int (m_at v a p4)), (0, .ref 33), (1, .int p1), (3, .int p3), (4, .int p4)]) (st1 := []) rfl rfl rfl ?_
      refine w_mv (pc1 := 53) (st1 := [.int (m_at v a p4)]) rfl rfl rfl ?_
      refine w_mv (pc1 := 55) (st1 := [.int 44, .int (m_at v a p4)]) rfl rfl rfl ?_
      by_cases h15 : (m_at v a p4).toInt = 44
      ·
        replace hh := hh.2 h15
        refine w_ine_F (pc1 := 58) rfl (by decide) rfl (show (m_at v a p4).toInt = 44 from h15) ?_
        refine w_mv (pc1 := 59) (st1 := [.int (p2 + (-1))]) rfl rfl rfl ?_
        refine w_mv (pc1 := 60) (st1 := [.int 1, .int (p2 + (-1))]) rfl rfl rfl ?_
        by_cases h16 : (p2 + (-1)).toInt = 1
        ·
          replace hh := hh.2 h16
          refine w_ine_F (pc1 := 63) rfl (by decide) rfl (show (p2 + (-1)).toInt = 1 from h16) ?_
          refine w_mv (pc1 := 66) (lv1 := [(3, .int (p3 + 1)), (2, .int (p2 + (-1))), (5, .int (m_at v a p4)), (0, .ref 33), (1, .int p1), (4, .int p4)]) (st1 := []) rfl rfl rfl ?_
          refine w_mv (pc1 := 69) (lv1 := [(4, .int (p4 + 1)), (3, .int (p3 + 1)), (2, .int (p2 + (-1))), (5, .int (m_at v a p4)), (0, .ref 33), (1, .int p1)]) (st1 := []) rfl rfl rfl ?_
          refine w_mv (pc1 := 70) (st1 := [.int (p2 + (-1))]) rfl rfl rfl ?_
          by_cases h17 : 0 < (p2 + (-1)).toInt
          ·
            replace hh := hh.1 h17
            refine w_zgt_T (pc1 := 23) rfl rfl (show 0 < (p2 + (-1)).toInt from h17) ?_
            refine w_wk (l1 := [(0, .ref 33), (1, .int p1), (2, .int (p2 + (-1))), (3, .int (p3 + 1)), (4, .int (p4 + 1))]) rfl ⟨rfl, rfl, rfl, rfl, rfl, trivial⟩ ?_
            exact hh A B d dc ds P hP
          ·
            replace hh := hh.2 (Int.not_lt.mp h17)
            refine w_zgt_F (pc1 := 73) rfl (by decide) rfl (show (p2 + (-1)).toInt ≤ 0 from (Int.not_lt.mp h17)) ?_
            refine w_mv (pc1 := 74) (st1 := [.int (p3 + 1)]) rfl rfl rfl ?_
            exact sx_wp.stop rfl rfl rfl (hP (p3 + 1) _ _ hh)
        ·
          replace hh := hh.1 h16
          refine w_ine_T (pc1 := 66) rfl rfl (show (p2 + (-1)).toInt ≠ 1 from h16) ?_
          refine w_mv (pc1 := 69) (lv1 := [(4, .int (p4 + 1)), (2, .int (p2 + (-1))), (5, .int (m_at v a p4)), (0, .ref 33), (1, .int p1), (3, .int p3)]) (st1 := []) rfl rfl rfl ?_
          refine w_mv (pc1 := 70) (st1 := [.int (p2 + (-1))]) rfl rfl rfl ?_
          by_cases h18 : 0 < (p2 + (-1)).toInt
          ·
            replace hh := hh.1 h18
            refine w_zgt_T (pc1 := 23) rfl rfl (show 0 < (p2 + (-1)).toInt from h18) ?_
            refine w_wk (l1 := [(0, .ref 33), (1, .int p1), (2, .int (p2 + (-1))), (3, .int p3), (4, .int (p4 + 1))]) rfl ⟨rfl, rfl, rfl, rfl, rfl, trivial⟩ ?_
            exact hh A B d dc ds P hP
          ·
            replace hh := hh.2 (Int.not_lt.mp h18)
            refine w_zgt_F (pc1 := 73) rfl (by decide) rfl (show (p2 + (-1)).toInt ≤ 0 from (Int.not_lt.mp h18)) ?_
            refine w_mv (pc1 := 74) (st1 := [.int p3]) rfl rfl rfl ?_
            exact sx_wp.stop rfl rfl rfl (hP p3 _ _ hh)
      ·
        replace hh := hh.1 h15
        refine w_ine_T (pc1 := 66) rfl rfl (show (m_at v a p4).toInt ≠ 44 from h15) ?_
        refine w_mv (pc1 := 69) (lv1 := [(4, .int (p4 + 1)), (2, .int (p2 + (-1))), (5, .int (m_at v a p4)), (0, .ref 33), (1, .int p1), (3, .int p3)]) (st1 := []) rfl rfl rfl ?_
        refine w_mv (pc1 := 70) (st1 := [.int (p2 + (-1))]) rfl rfl rfl ?_
        by_cases h19 : 0 < (p2 + (-1)).toInt
        ·
          replace hh := hh.1 h19
          refine w_zgt_T (pc1 := 23) rfl rfl (show 0 < (p2 + (-1)).toInt from h19) ?_
          refine w_wk (l1 := [(0, .ref 33), (1, .int p1), (2, .int (p2 + (-1))), (3, .int p3), (4, .int (p4 + 1))]) rfl ⟨rfl, rfl, rfl, rfl, rfl, trivial⟩ ?_
          exact hh A B d dc ds P hP
        ·
          replace hh := hh.2 (Int.not_lt.mp h19)
          refine w_zgt_F (pc1 := 73) rfl (by decide) rfl (show (p2 + (-1)).toInt ≤ 0 from (Int.not_lt.mp h19)) ?_
          refine w_mv (pc1 := 74) (st1 := [.int p3]) rfl rfl rfl ?_
          exact sx_wp.stop rfl rfl rfl (hP p3 _ _ hh)
    ·
      replace hh := hh.1 h14
      refine w_ine_T (pc1 := 51) rfl rfl (show (m_at v a p4).toInt ≠ 41 from h14) ?_
      refine w_mv (pc1 := 53) (st1 := [.int (m_at v a p4)]) rfl rfl rfl ?_
      refine w_mv (pc1 := 55) (st1 := [.int 44, .int (m_at v a p4)]) rfl rfl rfl ?_
      by_cases h20 : (m_at v a p4).toInt = 44
      ·
        replace hh := hh.2 h20
        refine w_ine_F (pc1 := 58) rfl (by decide) rfl (show (m_at v a p4).toInt = 44 from h20) ?_
        refine w_mv (pc1 := 59) (st1 := [.int p2]) rfl rfl rfl ?_
        refine w_mv (pc1 := 60) (st1 := [.int 1, .int p2]) rfl rfl rfl ?_
        by_cases h21 : p2.toInt = 1
        ·
          replace hh := hh.2 h21
          refine w_ine_F (pc1 := 63) rfl (by decide) rfl (show p2.toInt = 1 from h21) ?_
          refine w_mv (pc1 := 66) (lv1 := [(3, .int (p3 + 1)), (5, .int (m_at v a p4)), (0, .ref 33), (1, .int p1), (2, .int p2), (4, .int p4)]) (st1 := []) rfl rfl rfl ?_
          refine w_mv (pc1 := 69) (lv1 := [(4, .int (p4 + 1)), (3, .int (p3 + 1)), (5, .int (m_at v a p4)), (0, .ref 33), (1, .int p1), (2, .int p2)]) (st1 := []) rfl rfl rfl ?_
          refine w_mv (pc1 := 70) (st1 := [.int p2]) rfl rfl rfl ?_
          by_cases h22 : 0 < p2.toInt
          ·
            replace hh := hh.1 h22
            refine w_zgt_T (pc1 := 23) rfl rfl (show 0 < p2.toInt from h22) ?_
            refine w_wk (l1 := [(0, .ref 33), (1, .int p1), (2, .int p2), (3, .int (p3 + 1)), (4, .int (p4 + 1))]) rfl ⟨rfl, rfl, rfl, rfl, rfl, trivial⟩ ?_
            exact hh A B d dc ds P hP
          ·
            replace hh := hh.2 (Int.not_lt.mp h22)
            refine w_zgt_F (pc1 := 73) rfl (by decide) rfl (show p2.toInt ≤ 0 from (Int.not_lt.mp h22)) ?_
            refine w_mv (pc1 := 74) (st1 := [.int (p3 + 1)]) rfl rfl rfl ?_
            exact sx_wp.stop rfl rfl rfl (hP (p3 + 1) _ _ hh)
        ·
          replace hh := hh.1 h21
          refine w_ine_T (pc1 := 66) rfl rfl (show p2.toInt ≠ 1 from h21) ?_
          refine w_mv (pc1 := 69) (lv1 := [(4, .int (p4 + 1)), (5, .int (m_at v a p4)), (0, .ref 33), (1, .int p1), (2, .int p2), (3, .int p3)]) (st1 := []) rfl rfl rfl ?_
          refine w_mv (pc1 := 70) (st1 := [.int p2]) rfl rfl rfl ?_
          by_cases h23 : 0 < p2.toInt
          ·
            replace hh := hh.1 h23
            refine w_zgt_T (pc1 := 23) rfl rfl (show 0 < p2.toInt from h23) ?_
            refine w_wk (l1 := [(0, .ref 33), (1, .int p1), (2, .int p2), (3, .int p3), (4, .int (p4 + 1))]) rfl ⟨rfl, rfl, rfl, rfl, rfl, trivial⟩ ?_
            exact hh A B d dc ds P hP
          ·
            replace hh := hh.2 (Int.not_lt.mp h23)
            refine w_zgt_F (pc1 := 73) rfl (by decide) rfl (show p2.toInt ≤ 0 from (Int.not_lt.mp h23)) ?_
            refine w_mv (pc1 := 74) (st1 := [.int p3]) rfl rfl rfl ?_
            exact sx_wp.stop rfl rfl rfl (hP p3 _ _ hh)
      ·
        replace hh := hh.1 h20
        refine w_ine_T (pc1 := 66) rfl rfl (show (m_at v a p4).toInt ≠ 44 from h20) ?_
        refine w_mv (pc1 := 69) (lv1 := [(4, .int (p4 + 1)), (5, .int (m_at v a p4)), (0, .ref 33), (1, .int p1), (2, .int p2), (3, .int p3)]) (st1 := []) rfl rfl rfl ?_
        refine w_mv (pc1 := 70) (st1 := [.int p2]) rfl rfl rfl ?_
        by_cases h24 : 0 < p2.toInt
        ·
          replace hh := hh.1 h24
          refine w_zgt_T (pc1 := 23) rfl rfl (show 0 < p2.toInt from h24) ?_
          refine w_wk (l1 := [(0, .ref 33), (1, .int p1), (2, .int p2), (3, .int p3), (4, .int (p4 + 1))]) rfl ⟨rfl, rfl, rfl, rfl, rfl, trivial⟩ ?_
          exact hh A B d dc ds P hP
        ·
          replace hh := hh.2 (Int.not_lt.mp h24)
          refine w_zgt_F (pc1 := 73) rfl (by decide) rfl (show p2.toInt ≤ 0 from (Int.not_lt.mp h24)) ?_
          refine w_mv (pc1 := 74) (st1 := [.int p3]) rfl rfl rfl ?_
          exact sx_wp.stop rfl rfl rfl (hP p3 _ _ hh)
set_option maxRecDepth 20000 in
set_option maxHeartbeats 4000000 in
theorem r_146_0  {v : Nat → Int32} {a : Nat → Nat → Int32} {K : Int32 → (Nat → Int32) → (Nat → Nat → Int32) → Prop} (hh : mT 1 sM_147 0 [(0, .ref 33)] [] v a (fun r1 v1 a1 => ((r1.toInt = 0 → mT 3 sM_124 0 [(0, .ref 33)] [] v1 a1 (fun r3 v3 a3 => 0 ≤ (v3 12).toInt ∧ (v3 13).toInt ≤ 624 ∧ mT 3 sM_124 0 [(0, .ref 33)] [] (va_up v3 12 (v3 12 + 1)) a3 (fun r5 v5 a5 => (((m_at v3 a3 (v3 12)).toInt = 60 → mT 0 sM_136 0 [(0, .ref 33), (1, .int r3)] [] v5 a5 (fun r7 v7 a7 => mT 0 sM_136 0 [(0, .ref 33), (1, .int r5)] [] v7 a7 (fun r8 v8 a8 => ((r7.toInt < 0 → ((0 ≤ r7.toInt → K r8 v8 a8) ∧ (r7.toInt < 0 → K r7 v8 a8))) ∧ (0 ≤ r7.toInt → ((0 ≤ r8.toInt → ((r7.toInt < 0 → K 0 v8 a8) ∧ (0 ≤ r7.toInt → 0 ≤ r7.toInt ∧ r7.toInt < 26000 ∧ ((((a8 14) r7.toNatClampNeg).toInt ≠ 0 → K 0 v8 a8) ∧ (((a8 14) r7.toNatClampNeg).toInt = 0 → ((r8.toInt < 0 → K 0 v8 a8) ∧ (0 ≤ r8.toInt → 0 ≤ r8.toInt ∧ r8.toInt < 26000 ∧ ((((a8 14) r8.toNatClampNeg).toInt ≠ 0 → K 0 v8 a8) ∧ (((a8 14) r8.toNatClampNeg).toInt = 0 → 0 ≤ (r7 * 3).toInt ∧ (r7 * 3).toInt < 78000 ∧ 0 ≤ (r8 * 3).toInt ∧ (r8 * 3).toInt < 78000 ∧ ((((a8 16) (r8 * 3).toNatClampNeg).toInt ≤ ((a8 16) (r7 * 3).toNatClampNeg).toInt → K 0 v8 a8) ∧ (((a8 16) (r7 * 3).toNatClampNeg).toInt < ((a8 16) (r8 * 3).toNatClampNeg).toInt → K 1 v8 a8))))))))))) ∧ (r8.toInt < 0 → ((0 ≤ r7.toInt → K r8 v8 a8) ∧ (r7.toInt < 0 → K r7 v8 a8))))))))) ∧ ((m_at v3 a3 (v3 12)).toInt ≠ 60 → mT 2 sM_141 0 [(0, .ref 33), (1, .int r3), (2, .int r5)] [] v5 a5 (fun r22 v22 a22 => ((r22.toInt < 0 → K r22 v22 a22) ∧ (0 ≤ r22.toInt → ((r22.toInt ≠ 2147483646 → ((r22.toInt ≠ 1 → (((m_at v3 a3 (v3 12)).toInt ≠ 61 → K 1 v22 a22) ∧ ((m_at v3 a3 (v3 12)).toInt = 61 → K 0 v22 a22))) ∧ (r22.toInt = 1 → (((m_at v3 a3 (v3 12)).toInt ≠ 61 → K 0 v22 a22) ∧ ((m_at v3 a3 (v3 12)).toInt = 61 → K 1 v22 a22))))) ∧ (r22.toInt = 2147483646 → K r22 v22 a22)))))))))) ∧ (r1.toInt ≠ 0 → K 0 v1 a1)))) : mT 4 sM_146 0 [(0, .ref 33)] [] v a K := by
  intro A B d dc ds P hP
  refine w_mv (pc1 := 1) (st1 := [.ref 33]) rfl rfl rfl ?_
  refine w_call (M' := sM_147) (vals := [.ref 33]) (rest := []) (lv' := [(0, .ref 33)]) rfl rfl rfl rfl rfl rfl rfl rfl rfl rfl ?_
  refine hh A B _ dc ds _ (fun r1 v1 a1 hh => ?_)
  show s_kont _ _ _ _ _ _ _ (.inl (some (.int r1))) (mH A B v1 a1) dc ds
  refine w_ki (pc1 := 4) rfl ?_
  by_cases h2 : r1.toInt = 0
  ·
    replace hh := hh.1 h2
    refine w_zeq_T (pc1 := 9) rfl rfl (show r1.toInt = 0 from h2) ?_
    refine w_mv (pc1 := 10) (st1 := [.ref 33]) rfl rfl rfl ?_
    refine w_call (M' := sM_124) (vals := [.ref 33]) (rest := []) (lv' := [(0, .ref 33)]) rfl rfl rfl rfl rfl rfl rfl rfl rfl rfl ?_
    refine hh A B _ dc ds _ (fun r3 v3 a3 hh => ?_)
    show s_kont _ _ _ _ _ _ _ (.inl (some (.int r3))) (mH A B v3 a3) dc ds
    refine w_ki (pc1 := 13) rfl ?_
    refine w_mv (pc1 := 14) (lv1 := [(1, .int r3), (0, .ref 33)]) (st1 := []) rfl rfl rfl ?_
    refine w_mv (pc1 := 15) (st1 := [.ref 33]) rfl rfl rfl ?_
    refine w_mv (pc1 := 16) (st1 := [.ref 33, .ref 33]) rfl rfl rfl ?_
    refine w_mv (pc1 := 19) (st1 := [.int (v3 12), .ref 33]) rfl rfl rfl ?_
    refine w_call (M' := sM_125) (vals := [.ref 33, .int (v3 12)]) (rest := []) (lv' := [(0, .ref 33), (1, .int (v3 12))]) rfl rfl rfl rfl rfl rfl rfl rfl rfl rfl ?_
    obtain ⟨o4a, o4b, hh⟩ := hh
    refine m_at_ o4a o4b ?_
    refine w_ki (pc1 := 22) rfl ?_
    refine w_mv (pc1 := 23) (lv1 := [(2, .int (m_at v3 a3 (v3 12))), (1, .int r3), (0, .ref 33)]) (st1 := []) rfl rfl rfl ?_
    refine w_mv (pc1 := 24) (st1 := [.ref 33]) rfl rfl rfl ?_
    refine w_mv (pc1 := 25) (st1 := [.ref 33, .ref 33]) rfl rfl rfl ?_
    refine w_mv (pc1 := 28) (st1 := [.int (v3 12), .ref 33]) rfl rfl rfl ?_
    refine w_mv (pc1 := 29) (st1 := [.int 1, .int (v3 12), .ref 33]) rfl rfl rfl ?_
    refine w_mv (pc1 := 30) (st1 := [.int (v3 12 + 1), .ref 33]) rfl rfl rfl ?_
    refine w_st (pc1 := 33) (st1 := []) (hs1 := mH A B (va_up v3 12 (v3 12 + 1)) a3) (dc1 := 0) (ds1 := 0) (dc2 := dc) (ds2 := ds) rfl rfl rfl rfl rfl ?_
    refine w_mv (pc1 := 34) (st1 := [.ref 33]) rfl rfl rfl ?_
    refine w_call (M' := sM_124) (vals := [.ref 33]) (rest := []) (lv' := [(0, .ref 33)]) rfl rfl rfl rfl rfl rfl rfl rfl rfl rfl ?_
    refine hh A B _ dc ds _ (fun r5 v5 a5 hh => ?_)
    show s_kont _ _ _ _ _ _ _ (.inl (some (.int r5))) (mH A B v5 a5) dc ds
    refine w_ki (pc1 := 37) rfl ?_
    refine w_mv (pc1 := 38) (lv1 := [(3, .int r5), (2, .int (m_at v3 a3 (v3 12))), (1, .int r3), (0, .ref 33)]) (st1 := []) rfl rfl rfl ?_
    refine w_mv (pc1 := 39) (st1 := [.int (m_at v3 a3 (v3 12))]) rfl rfl rfl ?_
    refine w_mv (pc1 := 41) (st1 := [.int 60, .int (m_at v3 a3 (v3 12))]) rfl rfl rfl ?_
    by_cases h6 : (m_at v3 a3 (v3 12)).toInt = 60
    ·
      replace hh := hh.1 h6
      refine w_ieq_T (pc1 := 98) rfl rfl (show (m_at v3 a3 (v3 12)).toInt = 60 from h6) ?_
      refine w_mv (pc1 := 99) (st1 := [.ref 33]) rfl rfl rfl ?_
      refine w_mv (pc1 := 100) (st1 := [.int r3, .ref 33]) rfl rfl rfl ?_
      refine w_call (M' := sM_136) (vals := [.ref 33, .int r3]) (rest := []) (lv' := [(0, .ref 33), (1, .int r3)]) rfl rfl rfl rfl rfl rfl rfl rfl rfl rfl ?_
      refine hh A B _ dc ds _ (fun r7 v7 a7 hh => ?_)
      show s_kont _ _ _ _ _ _ _ (.inl (some (.int r7))) (mH A B v7 a7) dc ds
      refine w_ki (pc1 := 103) rfl ?_
      refine w_mv (pc1 := 105) (lv1 := [(4, .int r7), (3, .int r5), (2, .int (m_at v3 a3 (v3 12))), (1, .int r3), (0, .ref 33)]) (st1 := []) rfl rfl rfl ?_
      refine w_mv (pc1 := 106) (st1 := [.ref 33]) rfl rfl rfl ?_
      refine w_mv (pc1 := 107) (st1 := [.int r5, .ref 33]) rfl rfl rfl ?_
      refine w_call (M' := sM_136) (vals := [.ref 33, .int r5]) (rest := []) (lv' := [(0, .ref 33), (1, .int r5)]) rfl rfl rfl rfl rfl rfl rfl rfl rfl rfl ?_
      refine hh A B _ dc ds _ (fun r8 v8 a8 hh => ?_)
      show s_kont _ _ _ _ _ _ _ (.inl (some (.int r8))) (mH A B v8 a8) dc ds
      refine w_ki (pc1 := 110) rfl ?_
      refine w_mv (pc1 := 112) (lv1 := [(5, .int r8), (4, .int r7), (3, .int r5), (2, .int (m_at v3 a3 (v3 12))), (1, .int r3), (0, .ref 33)]) (st1 := []) rfl rfl rfl ?_
      refine w_mv (pc1 := 114) (st1 := [.int r7]) rfl rfl rfl ?_
      by_cases h9 : r7.toInt < 0
      ·
        replace hh := hh.1 h9
        refine w_zlt_T (pc1 := 122) rfl rfl (show r7.toInt < 0 from h9) ?_
        refine w_mv (pc1 := 124) (st1 := [.int r7]) rfl rfl rfl ?_
        by_cases h10 : 0 ≤ r7.toInt
        ·
          replace hh := hh.1 h10
          refine w_zge_T (pc1 := 132) rfl rfl (show 0 ≤ r7.toInt from h10) ?_
          refine w_mv (pc1 := 134) (st1 := [.int r8]) rfl rfl rfl ?_
          exact sx_wp.stop rfl rfl rfl (hP r8 _ _ hh)
        ·
          replace hh := hh.2 (Int.not_le.mp h10)
          refine w_zge_F (pc1 := 127) rfl (by decide) rfl (show r7.toInt < 0 from (Int.not_le.mp h10)) ?_
          refine w_mv (pc1 := 129) (st1 := [.int r7]) rfl rfl rfl ?_
          refine w_mv (pc1 := 134) (st1 := [.int r7]) rfl rfl rfl ?_
          exact sx_wp.stop rfl rfl rfl (hP r7 _ _ hh)
      ·
        replace hh := hh.2 (Int.not_lt.mp h9)
        refine w_zlt_F (pc1 := 117) rfl (by decide) rfl (show 0 ≤ r7.toInt from (Int.not_lt.mp h9)) ?_
        refine w_mv (pc1 := 119) (st1 := [.int r8]) rfl rfl rfl ?_
        by_cases h11 : 0 ≤ r8.toInt
        ·
          replace hh := hh.1 h11
          refine w_zge_T (pc1 := 135) rfl rfl (show 0 ≤ r8.toInt from h11) ?_
          refine w_mv (pc1 := 136) (st1 := [.ref 33]) rfl rfl rfl ?_
          refine w_mv (pc1 := 138) (st1 := [.int r7, .ref 33]) rfl rfl rfl ?_
          refine w_call (M' := sM_144) (vals := [.ref 33, .int r7]) (rest := []) (lv' := [(0, .ref 33), (1, .int r7)]) rfl rfl rfl rfl rfl rfl rfl rfl rfl rfl ?_
          refine w_mv (pc1 := 1) (st1 := [.int r7]) rfl rfl rfl ?_
          by_cases h12 : r7.toInt < 0
          ·
            replace hh := hh.1 h12
            refine w_zlt_T (pc1 := 17) rfl rfl (show r7.toInt < 0 from h12) ?_
            refine w_mv (pc1 := 18) (st1 := [.int 0]) rfl rfl rfl ?_
            refine w_iret (pc1 := 141) rfl rfl rfl rfl ?_
            refine w_mv (pc1 := 178) (st1 := []) rfl rfl rfl ?_
            refine w_mv (pc1 := 179) (st1 := [.int 0]) rfl rfl rfl ?_
            exact sx_wp.stop rfl rfl rfl (hP 0 _ _ hh)
          ·
            replace hh := hh.2 (Int.not_lt.mp h12)
            refine w_zlt_F (pc1 := 4) rfl (by decide) rfl (show 0 ≤ r7.toInt from (Int.not_lt.mp h12)) ?_
            refine w_mv (pc1 := 5) (st1 := [.ref 33]) rfl rfl rfl ?_
            refine w_mv (pc1 := 8) (st1 := [.ref 41]) rfl rfl rfl ?_
            refine w_mv (pc1 := 9) (st1 := [.int r7, .ref 41]) rfl rfl rfl ?_
            obtain ⟨o13a, o13b, hh⟩ := hh
            refine w_ald (x := 41) (t := 0) (A := (26000, .inl (a8 14))) (v := .int ((a8 14) r7.toNatClampNeg)) (pc1 := 10) rfl rfl rfl rfl rfl o13a o13b rfl rfl ?_
            by_cases h14 : ((a8 14) r7.toNatClampNeg).toInt = 0
            ·
              replace hh := hh.2 h14
              refine w_zne_F (pc1 := 13) rfl (by decide) rfl (show ((a8 14) r7.toNatClampNeg).toInt = 0 from h14) ?_
              refine w_mv (pc1 := 14) (st1 := [.int 1]) rfl rfl rfl ?_
              refine w_mv (pc1 := 18) (st1 := [.int 1]) rfl rfl rfl ?_
              refine w_iret (pc1 := 141) rfl rfl rfl rfl ?_
              refine w_mv (pc1 := 144) (st1 := []) rfl rfl rfl ?_
              refine w_mv (pc1 := 145) (st1 := [.ref 33]) rfl rfl rfl ?_
              refine w_mv (pc1 := 147) (st1 := [.int r8, .ref 33]) rfl rfl rfl ?_
              refine w_call (M' := sM_144) (vals := [.ref 33, .int r8]) (rest := []) (lv' := [(0, .ref 33), (1, .int r8)]) rfl rfl rfl rfl rfl rfl rfl rfl rfl rfl ?_
              refine w_mv (pc1 := 1) (st1 := [.int r8]) rfl rfl rfl ?_
              by_cases h15 : r8.toInt < 0
              ·
                replace hh := hh.1 h15
                refine w_zlt_T (pc1 := 17) rfl rfl (show r8.toInt < 0 from h15) ?_
                refine w_mv (pc1 := 18) (st1 := [.int 0]) rfl rfl rfl ?_
                refine w_iret (pc1 := 150) rfl rfl rfl rfl ?_
                refine w_mv (pc1 := 178) (st1 := []) rfl rfl rfl ?_
                refine w_mv (pc1 := 179) (st1 := [.int 0]) rfl rfl rfl ?_
                exact sx_wp.stop rfl rfl rfl (hP 0 _ _ hh)
              ·
                replace hh := hh.2 (Int.not_lt.mp h15)
                refine w_zlt_F (pc1 := 4) rfl (by decide) rfl (show 0 ≤ r8.toInt from (Int.not_lt.mp h15)) ?_
                refine w_mv (pc1 := 5) (st1 := [.ref 33]) rfl rfl rfl ?_
                refine w_mv (pc1 := 8) (st1 := [.ref 41]) rfl rfl rfl ?_
                refine w_mv (pc1 := 9) (st1 := [.int r8, .ref 41]) rfl rfl rfl ?_
                obtain ⟨o16a, o16b, hh⟩ := hh
                refine w_ald (x := 41) (t := 0) (A := (26000, .inl (a8 14))) (v := .int ((a8 14) r8.toNatClampNeg)) (pc1 := 10) rfl rfl rfl rfl rfl o16a o16b rfl rfl ?_
                by_cases h17 : ((a8 14) r8.toNatClampNeg).toInt = 0
                ·
                  replace hh := hh.2 h17
                  refine w_zne_F (pc1 := 13) rfl (by decide) rfl (show ((a8 14) r8.toNatClampNeg).toInt = 0 from h17) ?_
                  refine w_mv (pc1 := 14) (st1 := [.int 1]) rfl rfl rfl ?_
                  refine w_mv (pc1 := 18) (st1 := [.int 1]) rfl rfl rfl ?_
                  refine w_iret (pc1 := 150) rfl rfl rfl rfl ?_
                  refine w_mv (pc1 := 153) (st1 := []) rfl rfl rfl ?_
                  refine w_mv (pc1 := 154) (st1 := [.ref 33]) rfl rfl rfl ?_
                  refine w_mv (pc1 := 157) (st1 := [.ref 43]) rfl rfl rfl ?_
                  refine w_mv (pc1 := 159) (st1 := [.int r7, .ref 43]) rfl rfl rfl ?_
                  refine w_mv (pc1 := 160) (st1 := [.int 3, .int r7, .ref 43]) rfl rfl rfl ?_
                  refine w_mv (pc1 := 161) (st1 := [.int (r7 * 3), .ref 43]) rfl rfl rfl ?_
                  obtain ⟨o18a, o18b, hh⟩ := hh
                  refine w_ald (x := 43) (t := 0) (A := (78000, .inl (a8 16))) (v := .int ((a8 16) (r7 * 3).toNatClampNeg)) (pc1 := 162) rfl rfl rfl rfl rfl o18a o18b rfl rfl ?_
                  refine w_mv (pc1 := 163) (st1 := [.ref 33, .int ((a8 16) (r7 * 3).toNatClampNeg)]) rfl rfl rfl ?_
                  refine w_mv (pc1 := 166) (st1 := [.ref 43, .int ((a8 16) (r7 * 3).toNatClampNeg)]) rfl rfl rfl ?_
                  refine w_mv (pc1 := 168) (st1 := [.int r8, .ref 43, .int ((a8 16) (r7 * 3).toNatClampNeg)]) rfl rfl rfl ?_
                  refine w_mv (pc1 := 169) (st1 := [.int 3, .int r8, .ref 43, .int ((a8 16) (r7 * 3).toNatClampNeg)]) rfl rfl rfl ?_
                  refine w_mv (pc1 := 170) (st1 := [.int (r8 * 3), .ref 43, .int ((a8 16) (r7 * 3).toNatClampNeg)]) rfl rfl rfl ?_
                  obtain ⟨o19a, o19b, hh⟩ := hh
                  refine w_ald (x := 43) (t := 0) (A := (78000, .inl (a8 16))) (v := .int ((a8 16) (r8 * 3).toNatClampNeg)) (pc1 := 171) rfl rfl rfl rfl rfl o19a o19b rfl rfl ?_
                  by_cases h20 : ((a8 16) (r8 * 3).toNatClampNeg).toInt ≤ ((a8 16) (r7 * 3).toNatClampNeg).toInt
                  ·
                    replace hh := hh.1 h20
                    refine w_ige_T (pc1 := 178) rfl rfl (show ((a8 16) (r8 * 3).toNatClampNeg).toInt ≤ ((a8 16) (r7 * 3).toNatClampNeg).toInt from h20) ?_
                    refine w_mv (pc1 := 179) (st1 := [.int 0]) rfl rfl rfl ?_
                    exact sx_wp.stop rfl rfl rfl (hP 0 _ _ hh)
                  ·
                    replace hh := hh.2 (Int.not_le.mp h20)
                    refine w_ige_F (pc1 := 174) rfl (by decide) rfl (show ((a8 16) (r7 * 3).toNatClampNeg).toInt < ((a8 16) (r8 * 3).toNatClampNeg).toInt from (Int.not_le.mp h20)) ?_
                    refine w_mv (pc1 := 175) (st1 := [.int 1]) rfl rfl rfl ?_
                    refine w_mv (pc1 := 179) (st1 := [.int 1]) rfl rfl rfl ?_
                    exact sx_wp.stop rfl rfl rfl (hP 1 _ _ hh)
                ·
                  replace hh := hh.1 h17
                  refine w_zne_T (pc1 := 17) rfl rfl (show ((a8 14) r8.toNatClampNeg).toInt ≠ 0 from h17) ?_
                  refine w_mv (pc1 := 18) (st1 := [.int 0]) rfl rfl rfl ?_
                  refine w_iret (pc1 := 150) rfl rfl rfl rfl ?_
                  refine w_mv (pc1 := 178) (st1 := []) rfl rfl rfl ?_
                  refine w_mv (pc1 := 179) (st1 := [.int 0]) rfl rfl rfl ?_
                  exact sx_wp.stop rfl rfl rfl (hP 0 _ _ hh)
            ·
              replace hh := hh.1 h14
              refine w_zne_T (pc1 := 17) rfl rfl (show ((a8 14) r7.toNatClampNeg).toInt ≠ 0 from h14) ?_
              refine w_mv (pc1 := 18) (st1 := [.int 0]) rfl rfl rfl ?_
              refine w_iret (pc1 := 141) rfl rfl rfl rfl ?_
              refine w_mv (pc1 := 178) (st1 := []) rfl rfl rfl ?_
              refine w_mv (pc1 := 179) (st1 := [.int 0]) rfl rfl rfl ?_
              exact sx_wp.stop rfl rfl rfl (hP 0 _ _ hh)
        ·
          replace hh := hh.2 (Int.not_le.mp h11)
          refine w_zge_F (pc1 := 122) rfl (by decide) rfl (show r8.toInt < 0 from (Int.not_le.mp h11)) ?_
          refine w_mv (pc1 := 124) (st1 := [.int r7]) rfl rfl rfl ?_
          by_cases h21 : 0 ≤ r7.toInt
          ·
            replace hh := hh.1 h21
            refine w_zge_T (pc1 := 132) rfl rfl (show 0 ≤ r7.toInt from h21) ?_
            refine w_mv (pc1 := 134) (st1 := [.int r8]) rfl rfl rfl ?_
            exact sx_wp.stop rfl rfl rfl (hP r8 _ _ hh)
          ·
            replace hh := hh.2 (Int.not_le.mp h21)
            refine w_zge_F (pc1 := 127) rfl (by decide) rfl (show r7.toInt < 0 from (Int.not_le.mp h21)) ?_
            refine w_mv (pc1 := 129) (st1 := [.int r7]) rfl rfl rfl ?_
            refine w_mv (pc1 := 134) (st1 := [.int r7]) rfl rfl rfl ?_
            exact sx_wp.stop rfl rfl rfl (hP r7 _ _ hh)
    ·
      replace hh := hh.2 h6
      refine w_ieq_F (pc1 := 44) rfl (by decide) rfl (show (m_at v3 a3 (v3 12)).toInt ≠ 60 from h6) ?_
      refine w_mv (pc1 := 45) (st1 := [.ref 33]) rfl rfl rfl ?_
      refine w_mv (pc1 := 46) (st1 := [.int r3, .ref 33]) rfl rfl rfl ?_
      refine w_mv (pc1 := 47) (st1 := [.int r5, .int r3, .ref 33]) rfl rfl rfl ?_
      refine w_call (M' := sM_141) (vals := [.ref 33, .int r3, .int r5]) (rest := []) (lv' := [(0, .ref 33), (1, .int r3), (2, .int r5)]) rfl rfl rfl rfl rfl rfl rfl rfl rfl rfl ?_
      refine hh A B _ dc ds _ (fun r22 v22 a22 hh => ?_)
      show s_kont _ _ _ _ _ _ _ (.inl (some (.int r22))) (mH A B v22 a22) dc ds
      refine w_ki (pc1 := 50) rfl ?_
      refine w_mv (pc1 := 52) (lv1 := [(4, .int r22), (3, .int r5), (2, .int (m_at v3 a3 (v3 12))), (1, .int r3), (0, .ref 33)]) (st1 := []) rfl rfl rfl ?_
      refine w_mv (pc1 := 54) (st1 := [.int r22]) rfl rfl rfl ?_
      by_cases h23 : r22.toInt < 0
      ·
        replace hh := hh.1 h23
        refine w_zlt_T (pc1 := 64) rfl rfl (show r22.toInt < 0 from h23) ?_
        refine w_mv (pc1 := 66) (st1 := [.int r22]) rfl rfl rfl ?_
        exact sx_wp.stop rfl rfl rfl (hP r22 _ _ hh)
      ·
        replace hh := hh.2 (Int.not_lt.mp h23)
        refine w_zlt_F (pc1 := 57) rfl (by decide) rfl (show 0 ≤ r22.toInt from (Int.not_lt.mp h23)) ?_
        refine w_mv (pc1 := 59) (st1 := [.int r22]) rfl rfl rfl ?_
        refine w_mv (pc1 := 61) (st1 := [.int 2147483646, .int r22]) rfl rfl rfl ?_
        by_cases h24 : r22.toInt = 2147483646
        ·
          replace hh := hh.2 h24
          refine w_ine_F (pc1 := 64) rfl (by decide) rfl (show r22.toInt = 2147483646 from h24) ?_
          refine w_mv (pc1 := 66) (st1 := [.int r22]) rfl rfl rfl ?_
          exact sx_wp.stop rfl rfl rfl (hP r22 _ _ hh)
        ·
          replace hh := hh.1 h24
          refine w_ine_T (pc1 := 67) rfl rfl (show r22.toInt ≠ 2147483646 from h24) ?_
          refine w_mv (pc1 := 69) (st1 := [.int r22]) rfl rfl rfl ?_
          refine w_mv (pc1 := 70) (st1 := [.int 1, .int r22]) rfl rfl rfl ?_
          by_cases h25 : r22.toInt = 1
          ·
            replace hh := hh.2 h25
            refine w_ine_F (pc1 := 73) rfl (by decide) rfl (show r22.toInt = 1 from h25) ?_
            refine w_mv (pc1 := 74) (st1 := [.int 1]) rfl rfl rfl ?_
            refine w_mv (pc1 := 78) (st1 := [.int 1]) rfl rfl rfl ?_
            refine w_mv (pc1 := 79) (st1 := [.int (m_at v3 a3 (v3 12)), .int 1]) rfl rfl rfl ?_
            refine w_mv (pc1 := 81) (st1 := [.int 61, .int (m_at v3 a3 (v3 12)), .int 1]) rfl rfl rfl ?_
            by_cases h26 : (m_at v3 a3 (v3 12)).toInt = 61
            ·
              replace hh := hh.2 h26
              refine w_ine_F (pc1 := 84) rfl (by decide) rfl (show (m_at v3 a3 (v3 12)).toInt = 61 from h26) ?_
              refine w_mv (pc1 := 85) (st1 := [.int 1, .int 1]) rfl rfl rfl ?_
              refine w_mv (pc1 := 89) (st1 := [.int 1, .int 1]) rfl rfl rfl ?_
              refine w_mv (pc1 := 92) (st1 := []) rfl rfl rfl ?_
              refine w_mv (pc1 := 93) (st1 := [.int 1]) rfl rfl rfl ?_
              refine w_mv (pc1 := 97) (st1 := [.int 1]) rfl rfl rfl ?_
              exact sx_wp.stop rfl rfl rfl (hP 1 _ _ hh)
            ·
              replace hh := hh.1 h26
              refine w_ine_T (pc1 := 88) rfl rfl (show (m_at v3 a3 (v3 12)).toInt ≠ 61 from h26) ?_
              refine w_mv (pc1 := 89) (st1 := [.int 0, .int 1]) rfl rfl rfl ?_
              refine w_mv (pc1 := 96) (st1 := []) rfl rfl rfl ?_
              refine w_mv (pc1 := 97) (st1 := [.int 0]) rfl rfl rfl ?_
              exact sx_wp.stop rfl rfl rfl (hP 0 _ _ hh)
          ·
            replace hh := hh.1 h25
            refine w_ine_T (pc1 := 77) rfl rfl (show r22.toInt ≠ 1 from h25) ?_
            refine w_mv (pc1 := 78) (st1 := [.int 0]) rfl rfl rfl ?_
            refine w_mv (pc1 := 79) (st1 := [.int (m_at v3 a3 (v3 12)), .int 0]) rfl rfl rfl ?_
            refine w_mv (pc1 := 81) (st1 := [.int 61, .int (m_at v3 a3 (v3 12)), .int 0]) rfl rfl rfl ?_
            by_cases h27 : (m_at v3 a3 (v3 12)).toInt = 61
            ·
              replace hh := hh.2 h27
              refine w_ine_F (pc1 := 84) rfl (by decide) rfl (show (m_at v3 a3 (v3 12)).toInt = 61 from h27) ?_
              refine w_mv (pc1 := 85) (st1 := [.int 1, .int 0]) rfl rfl rfl ?_
              refine w_mv (pc1 := 89) (st1 := [.int 1, .int 0]) rfl rfl rfl ?_
              refine w_mv (pc1 := 96) (st1 := []) rfl rfl rfl ?_
              refine w_mv (pc1 := 97) (st1 := [.int 0]) rfl rfl rfl ?_
              exact sx_wp.stop rfl rfl rfl (hP 0 _ _ hh)
            ·
              replace hh := hh.1 h27
              refine w_ine_T (pc1 := 88) rfl rfl (show (m_at v3 a3 (v3 12)).toInt ≠ 61 from h27) ?_
              refine w_mv (pc1 := 89) (st1 := [.int 0, .int 0]) rfl rfl rfl ?_
              refine w_mv (pc1 := 92) (st1 := []) rfl rfl rfl ?_
              refine w_mv (pc1 := 93) (st1 := [.int 1]) rfl rfl rfl ?_
              refine w_mv (pc1 := 97) (st1 := [.int 1]) rfl rfl rfl ?_
              exact sx_wp.stop rfl rfl rfl (hP 1 _ _ hh)
  ·
    replace hh := hh.2 h2
    refine w_zeq_F (pc1 := 7) rfl (by decide) rfl (show r1.toInt ≠ 0 from h2) ?_
    refine w_mv (pc1 := 8) (st1 := [.int 0]) rfl rfl rfl ?_
    exact sx_wp.stop rfl rfl rfl (hP 0 _ _ hh)
set_option maxRecDepth 20000 in
set_option maxHeartbeats 4000000 in
theorem r_147_0  {v : Nat → Int32} {a : Nat → Nat → Int32} {K : Int32 → (Nat → Int32) → (Nat → Nat → Int32) → Prop} (hh : mT 1 sM_147 7 [(0, .ref 33), (1, .int 0), (2, .int (v 12))] [] v a K) : mT 1 sM_147 0 [(0, .ref 33)] [] v a K := by
  intro A B d dc ds P hP
  refine w_mv (pc1 := 1) (st1 := [.int 0]) rfl rfl rfl ?_
  refine w_mv (pc1 := 2) (lv1 := [(1, .int 0), (0, .ref 33)]) (st1 := []) rfl rfl rfl ?_
  refine w_mv (pc1 := 3) (st1 := [.ref 33]) rfl rfl rfl ?_
  refine w_mv (pc1 := 6) (st1 := [.int (v 12)]) rfl rfl rfl ?_
  refine w_mv (pc1 := 7) (lv1 := [(2, .int (v 12)), (1, .int 0), (0, .ref 33)]) (st1 := []) rfl rfl rfl ?_
  refine w_wk (l1 := [(0, .ref 33), (1, .int 0), (2, .int (v 12))]) rfl ⟨rfl, rfl, rfl, trivial⟩ ?_
  exact hh A B d dc ds P hP
set_option maxRecDepth 20000 in
set_option maxHeartbeats 4000000 in
theorem r_147_7 {p1 : Int32} {p2 : Int32} {v : Nat → Int32} {a : Nat → Nat → Int32} {K : Int32 → (Nat → Int32) → (Nat → Nat → Int32) → Prop} (hh : (((v 13).toInt ≤ p2.toInt → K 0 v a) ∧ (p2.toInt < (v 13).toInt → 0 ≤ p2.toInt ∧ p2.toInt < 624 ∧ ((((a 1) p2.toNatClampNeg).toInt ≠ 40 → ((((a 1) p2.toNatClampNeg).toInt ≠ 41 → mT 1 sM_147 40 [(0, .ref 33), (1, .int p1), (2, .int p2), (3, .int ((a 1) p2.toNatClampNeg))] [] v a K) ∧ (((a 1) p2.toNatClampNeg).toInt = 41 → mT 1 sM_147 40 [(0, .ref 33), (1, .int (p1 + (-1))), (2, .int p2), (3, .int ((a 1) p2.toNatClampNeg))] [] v a K))) ∧ (((a 1) p2.toNatClampNeg).toInt = 40 → ((((a 1) p2.toNatClampNeg).toInt ≠ 41 → mT 1 sM_147 40 [(0, .ref 33), (1, .int (p1 + 1)), (2, .int p2), (3, .int ((a 1) p2.toNatClampNeg))] [] v a K) ∧ (((a 1) p2.toNatClampNeg).toInt = 41 → mT 1 sM_147 40 [(0, .ref 33), (1, .int (p1 + 1 + (-1))), (2, .int p2), (3, .int ((a 1) p2.toNatClampNeg))] [] v a K))))))) : mT 1 sM_147 7 [(0, .ref 33), (1, .int p1), (2, .int p2)] [] v a K := by
  intro A B d dc ds P hP
  refine w_mv (pc1 := 8) (st1 := [.int p2]) rfl rfl rfl ?_
  refine w_mv (pc1 := 9) (st1 := [.ref 33, .int p2]) rfl rfl rfl ?_
  refine w_mv (pc1 := 12) (st1 := [.int (v 13), .int p2]) rfl rfl rfl ?_
  by_cases h1 : (v 13).toInt ≤ p2.toInt
  ·
    replace hh := hh.1 h1
    refine w_ige_T (pc1 := 91) rfl rfl (show (v 13).toInt ≤ p2.toInt from h1) ?_
    refine w_mv (pc1 := 92) (st1 := [.int 0]) rfl rfl rfl ?_
    exact sx_wp.stop rfl rfl rfl (hP 0 _ _ hh)
  ·
    replace hh := hh.2 (Int.not_le.mp h1)
    refine w_ige_F (pc1 := 15) rfl (by decide) rfl (show p2.toInt < (v 13).toInt from (Int.not_le.mp h1)) ?_
    refine w_mv (pc1 := 16) (st1 := [.ref 33]) rfl rfl rfl ?_
    refine w_mv (pc1 := 19) (st1 := [.ref 35]) rfl rfl rfl ?_
    refine w_mv (pc1 := 20) (st1 := [.int p2, .ref 35]) rfl rfl rfl ?_
    obtain ⟨o2a, o2b, hh⟩ := hh
    refine w_ald (x := 35) (t := 0) (A := (624, .inl (a 1))) (v := .int ((a 1) p2.toNatClampNeg)) (pc1 := 21) rfl rfl rfl rfl rfl o2a o2b rfl rfl ?_
    refine w_mv (pc1 := 22) (lv1 := [(3, .int ((a 1) p2.toNatClampNeg)), (0, .ref 33), (1, .int p1), (2, .int p2)]) (st1 := []) rfl rfl rfl ?_
    refine w_mv (pc1 := 23) (st1 := [.int ((a 1) p2.toNatClampNeg)]) rfl rfl rfl ?_
    refine w_mv (pc1 := 25) (st1 := [.int 40, .int ((a 1) p2.toNatClampNeg)]) rfl rfl rfl ?_
    by_cases h3 : ((a 1) p2.toNatClampNeg).toInt = 40
    ·
      replace hh := hh.2 h3
      refine w_ine_F (pc1 := 28) rfl (by decide) rfl (show ((a 1) p2.toNatClampNeg).toInt = 40 from h3) ?_
      refine w_mv (pc1 := 31) (lv1 := [(1, .int (p1 + 1)), (3, .int ((a 1) p2.toNatClampNeg)), (0, .ref 33), (2, .int p2)]) (st1 := []) rfl rfl rfl ?_
      refine w_mv (pc1 := 32) (st1 := [.int ((a 1) p2.toNatClampNeg)]) rfl rfl rfl ?_
      refine w_mv (pc1 := 34) (st1 := [.int 41, .int ((a 1) p2.toNatClampNeg)]) rfl rfl rfl ?_
      by_cases h4 : ((a 1) p2.toNatClampNeg).toInt = 41
      ·
        replace hh := hh.2 h4
        refine w_ine_F (pc1 := 37) rfl (by decide) rfl (show ((a 1) p2.toNatClampNeg).toInt = 41 from h4) ?_
        refine w_mv (pc1 := 40) (lv1 := [(1, .int (p1 + 1 + (-1))), (3, .int ((a 1) p2.toNatClampNeg)), (0, .ref 33), (2, .int p2)]) (st1 := []) rfl rfl rfl ?_
        refine w_wk (l1 := [(0, .ref 33), (1, .int (p1 + 1 + (-1))), (2, .int p2), (3, .int ((a 1) p2.toNatClampNeg))]) rfl ⟨rfl, rfl, rfl, rfl, trivial⟩ ?_
        exact hh A B d dc ds P hP
      ·
        replace hh := hh.1 h4
        refine w_ine_T (pc1 := 40) rfl rfl (show ((a 1) p2.toNatClampNeg).toInt ≠ 41 from h4) ?_
        refine w_wk (l1 := [(0, .ref 33), (1, .int (p1 + 1)), (2, .int p2), (3, .int ((a 1) p2.toNatClampNeg))]) rfl ⟨rfl, rfl, rfl, rfl, trivial⟩ ?_
        exact hh A B d dc ds P hP
    ·
      replace hh := hh.1 h3
      refine w_ine_T (pc1 := 31) rfl rfl (show ((a 1) p2.toNatClampNeg).toInt ≠ 40 from h3) ?_
      refine w_mv (pc1 := 32) (st1 := [.int ((a 1) p2.toNatClampNeg)]) rfl rfl rfl ?_
      refine w_mv (pc1 := 34) (st1 := [.int 41, .int ((a 1) p2.toNatClampNeg)]) rfl rfl rfl ?_
      by_cases h5 : ((a 1) p2.toNatClampNeg).toInt = 41
      ·
        replace hh := hh.2 h5
        refine w_ine_F (pc1 := 37) rfl (by decide) rfl (show ((a 1) p2.toNatClampNeg).toInt = 41 from h5) ?_
        refine w_mv (pc1 := 40) (lv1 := [(1, .int (p1 + (-1))), (3, .int ((a 1) p2.toNatClampNeg)), (0, .ref 33), (2, .int p2)]) (st1 := []) rfl rfl rfl ?_
        refine w_wk (l1 := [(0, .ref 33), (1, .int (p1 + (-1))), (2, .int p2), (3, .int ((a 1) p2.toNatClampNeg))]) rfl ⟨rfl, rfl, rfl, rfl, trivial⟩ ?_
        exact hh A B d dc ds P hP
      ·
        replace hh := hh.1 h5
        refine w_ine_T (pc1 := 40) rfl rfl (show ((a 1) p2.toNatClampNeg).toInt ≠ 41 from h5) ?_
        refine w_wk (l1 := [(0, .ref 33), (1, .int p1), (2, .int p2), (3, .int ((a 1) p2.toNatClampNeg))]) rfl ⟨rfl, rfl, rfl, rfl, trivial⟩ ?_
        exact hh A B d dc ds P hP
set_option maxRecDepth 20000 in
set_option maxHeartbeats 4000000 in
theorem r_147_40 {p1 : Int32} {p2 : Int32} {p3 : Int32} {v : Nat → Int32} {a : Nat → Nat → Int32} {K : Int32 → (Nat → Int32) → (Nat → Nat → Int32) → Prop} (hh : ((p3.toInt = 124 → K 0 v a) ∧ (p3.toInt ≠ 124 → ((p3.toInt ≠ 44 → ((65 ≤ p3.toInt → p3.toInt ≤ 90 → 0 ≤ (p3 - 65).toInt ∧ (p3 - 65).toInt < 26 ∧ ((((a 5) (p3 - 65).toNatClampNeg).toInt ≠ 2147483647 → mT 1 sM_147 7 [(0, .ref 33), (1, .int p1), (2, .int (p2 + 1))] [] v a K) ∧ (((a 5) (p3 - 65).toNatClampNeg).toInt = 2147483647 → K 1 v a))) ∧ ((p3.toInt < 65 ∨ 90 < p3.toInt) → mT 1 sM_147 7 [(0, .ref 33), (1, .int p1), (2, .int (p2 + 1))] [] v a K))) ∧ (p3.toInt = 44 → ((p1.toInt ≠ 0 → ((65 ≤ p3.toInt → p3.toInt ≤ 90 → 0 ≤ (p3 - 65).toInt ∧ (p3 - 65).toInt < 26 ∧ ((((a 5) (p3 - 65).toNatClampNeg).toInt ≠ 2147483647 → mT 1 sM_147 7 [(0, .ref 33), (1, .int p1), (2, .int (p2 + 1))] [] v a K) ∧ (((a 5) (p3 - 65).toNatClampNeg).toInt = 2147483647 → K 1 v a))) ∧ ((p3.toInt < 65 ∨ 90 < p3.toInt) → mT 1 sM_147 7 [(0, .ref 33), (1, .int p1), (2, .int (p2 + 1))] [] v a K))) ∧ (p1.toInt = 0 → K 0 v a))))))) : mT 1 sM_147 40 [(0, .ref 33), (1, .int p1), (2, .int p2), (3, .int p3)] [] v a K := by
  intro A B d dc ds P hP
  refine w_mv (pc1 := 41) (st1 := [.int p3]) rfl rfl rfl ?_
  refine w_mv (pc1 := 43) (st1 := [.int 124, .int p3]) rfl rfl rfl ?_
  by_cases h1 : p3.toInt = 124
  ·
    replace hh := hh.1 h1
    refine w_ieq_T (pc1 := 56) rfl rfl (show p3.toInt = 124 from h1) ?_
    refine w_mv (pc1 := 57) (st1 := [.int 0]) rfl rfl rfl ?_
    exact sx_wp.stop rfl rfl rfl (hP 0 _ _ hh)
  ·
    replace hh := hh.2 h1
    refine w_ieq_F (pc1 := 46) rfl (by decide) rfl (show p3.toInt ≠ 124 from h1) ?_
    refine w_mv (pc1 := 47) (st1 := [.int p3]) rfl rfl rfl ?_
    refine w_mv (pc1 := 49) (st1 := [.int 44, .int p3]) rfl rfl rfl ?_
    by_cases h2 : p3.toInt = 44
    ·
      replace hh := hh.2 h2
      refine w_ine_F (pc1 := 52) rfl (by decide) rfl (show p3.toInt = 44 from h2) ?_
      refine w_mv (pc1 := 53) (st1 := [.int p1]) rfl rfl rfl ?_
      by_cases h3 : p1.toInt = 0
      ·
        replace hh := hh.2 h3
        refine w_zne_F (pc1 := 56) rfl (by decide) rfl (show p1.toInt = 0 from h3) ?_
        refine w_mv (pc1 := 57) (st1 := [.int 0]) rfl rfl rfl ?_
        exact sx_wp.stop rfl rfl rfl (hP 0 _ _ hh)
      ·
        replace hh := hh.1 h3
        refine w_zne_T (pc1 := 58) rfl rfl (show p1.toInt ≠ 0 from h3) ?_
        refine w_mv (pc1 := 59) (st1 := [.int p3]) rfl rfl rfl ?_
        refine w_mv (pc1 := 61) (st1 := [.int 65, .int p3]) rfl rfl rfl ?_
        refine w_mv (pc1 := 63) (st1 := [.int 90, .int 65, .int p3]) rfl rfl rfl ?_
        refine w_call (M' := sM_111) (vals := [.int p3, .int 65, .int 90]) (rest := []) (lv' := [(0, .int p3), (1, .int 65), (2, .int 90)]) rfl rfl rfl rfl rfl rfl rfl rfl rfl rfl ?_
        refine m_in (fun h4a h4b => ?_) (fun h4c => ?_)
        ·
          replace hh := hh.1 h4a h4b
          refine w_ki (pc1 := 66) rfl ?_
          refine w_mv (pc1 := 69) (st1 := []) rfl rfl rfl ?_
          refine w_mv (pc1 := 70) (st1 := [.ref 33]) rfl rfl rfl ?_
          refine w_mv (pc1 := 73) (st1 := [.ref 39]) rfl rfl rfl ?_
          refine w_mv (pc1 := 74) (st1 := [.int p3, .ref 39]) rfl rfl rfl ?_
          refine w_mv (pc1 := 76) (st1 := [.int 65, .int p3, .ref 39]) rfl rfl rfl ?_
          refine w_mv (pc1 := 77) (st1 := [.int (p3 - 65), .ref 39]) rfl rfl rfl ?_
          obtain ⟨o5a, o5b, hh⟩ := hh
          refine w_ald (x := 39) (t := 0) (A := (26, .inl (a 5))) (v := .int ((a 5) (p3 - 65).toNatClampNeg)) (pc1 := 78) rfl rfl rfl rfl rfl o5a o5b rfl rfl ?_
          refine w_mv (pc1 := 80) (st1 := [.int 2147483647, .int ((a 5) (p3 - 65).toNatClampNeg)]) rfl rfl rfl ?_
          by_cases h6 : ((a 5) (p3 - 65).toNatClampNeg).toInt = 2147483647
          ·
            replace hh := hh.2 h6
            refine w_ine_F (pc1 := 83) rfl (by decide) rfl (show ((a 5) (p3 - 65).toNatClampNeg).toInt = 2147483647 from h6) ?_
            refine w_mv (pc1 := 84) (st1 := [.int 1]) rfl rfl rfl ?_
            exact sx_wp.stop rfl rfl rfl (hP 1 _ _ hh)
          ·
            replace hh := hh.1 h6
            refine w_ine_T (pc1 := 85) rfl rfl (show ((a 5) (p3 - 65).toNatClampNeg).toInt ≠ 2147483647 from h6) ?_
            refine w_mv (pc1 := 88) (lv1 := [(2, .int (p2 + 1)), (0, .ref 33), (1, .int p1), (3, .int p3)]) (st1 := []) rfl rfl rfl ?_
            refine w_mv (pc1 := 7) (st1 := []) rfl rfl rfl ?_
            refine w_wk (l1 := [(0, .ref 33), (1, .int p1), (2, .int (p2 + 1))]) rfl ⟨rfl, rfl, rfl, trivial⟩ ?_
            exact hh A B d dc ds P hP
        ·
          replace hh := hh.2 h4c
          refine w_ki (pc1 := 66) rfl ?_
          refine w_mv (pc1 := 85) (st1 := []) rfl rfl rfl ?_
          refine w_mv (pc1 := 88) (lv1 := [(2, .int (p2 + 1)), (0, .ref 33), (1, .int p1), (3, .int p3)]) (st1 := []) rfl rfl rfl ?_
          refine w_mv (pc1 := 7) (st1 := []) rfl rfl rfl ?_
          refine w_wk (l1 := [(0, .ref 33), (1, .int p1), (2, .int (p2 + 1))]) rfl ⟨rfl, rfl, rfl, trivial⟩ ?_
          exact hh A B d dc ds P hP
    ·
      replace hh := hh.1 h2
      refine w_ine_T (pc1 := 58) rfl rfl (show p3.toInt ≠ 44 from h2) ?_
      refine w_mv (pc1 := 59) (st1 := [.int p3]) rfl rfl rfl ?_
      refine w_mv (pc1 := 61) (st1 := [.int 65, .int p3]) rfl rfl rfl ?_
      refine w_mv (pc1 := 63) (st1 := [.int 90, .int 65, .int p3]) rfl rfl rfl ?_
      refine w_call (M' := sM_111) (vals := [.int p3, .int 65, .int 90]) (rest := []) (lv' := [(0, .int p3), (1, .int 65), (2, .int 90)]) rfl rfl rfl rfl rfl rfl rfl rfl rfl rfl ?_
      refine m_in (fun h7a h7b => ?_) (fun h7c => ?_)
      ·
        replace hh := hh.1 h7a h7b
        refine w_ki (pc1 := 66) rfl ?_
        refine w_mv (pc1 := 69) (st1 := []) rfl rfl rfl ?_
        refine w_mv (pc1 := 70) (st1 := [.ref 33]) rfl rfl rfl ?_
        refine w_mv (pc1 := 73) (st1 := [.ref 39]) rfl rfl rfl ?_
        refine w_mv (pc1 := 74) (st1 := [.int p3, .ref 39]) rfl rfl rfl ?_
        refine w_mv (pc1 := 76) (st1 := [.int 65, .int p3, .ref 39]) rfl rfl rfl ?_
        refine w_mv (pc1 := 77) (st1 := [.int (p3 - 65), .ref 39]) rfl rfl rfl ?_
        obtain ⟨o8a, o8b, hh⟩ := hh
        refine w_ald (x := 39) (t := 0) (A := (26, .inl (a 5))) (v := .int ((a 5) (p3 - 65).toNatClampNeg)) (pc1 := 78) rfl rfl rfl rfl rfl o8a o8b rfl rfl ?_
        refine w_mv (pc1 := 80) (st1 := [.int 2147483647, .int ((a 5) (p3 - 65).toNatClampNeg)]) rfl rfl rfl ?_
        by_cases h9 : ((a 5) (p3 - 65).toNatClampNeg).toInt = 2147483647
        ·
          replace hh := hh.2 h9
          refine w_ine_F (pc1 := 83) rfl (by decide) rfl (show ((a 5) (p3 - 65).toNatClampNeg).toInt = 2147483647 from h9) ?_
          refine w_mv (pc1 := 84) (st1 := [.int 1]) rfl rfl rfl ?_
          exact sx_wp.stop rfl rfl rfl (hP 1 _ _ hh)
        ·
          replace hh := hh.1 h9
          refine w_ine_T (pc1 := 85) rfl rfl (show ((a 5) (p3 - 65).toNatClampNeg).toInt ≠ 2147483647 from h9) ?_
          refine w_mv (pc1 := 88) (lv1 := [(2, .int (p2 + 1)), (0, .ref 33), (1, .int p1), (3, .int p3)]) (st1 := []) rfl rfl rfl ?_
          refine w_mv (pc1 := 7) (st1 := []) rfl rfl rfl ?_
          refine w_wk (l1 := [(0, .ref 33), (1, .int p1), (2, .int (p2 + 1))]) rfl ⟨rfl, rfl, rfl, trivial⟩ ?_
          exact hh A B d dc ds P hP
      ·
        replace hh := hh.2 h7c
        refine w_ki (pc1 := 66) rfl ?_
        refine w_mv (pc1 := 85) (st1 := []) rfl rfl rfl ?_
        refine w_mv (pc1 := 88) (lv1 := [(2, .int (p2 + 1)), (0, .ref 33), (1, .int p1), (3, .int p3)]) (st1 := []) rfl rfl rfl ?_
        refine w_mv (pc1 := 7) (st1 := []) rfl rfl rfl ?_
        refine w_wk (l1 := [(0, .ref 33), (1, .int p1), (2, .int (p2 + 1))]) rfl ⟨rfl, rfl, rfl, trivial⟩ ?_
        exact hh A B d dc ds P hP
