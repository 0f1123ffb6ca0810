/-! THE IMAGES, more of them (by program: wip/sx/gen_img.py) -/
set_option maxRecDepth 20000 in
set_option maxHeartbeats 4000000 in
theorem r_148_0 {p1 : Int32} {v : Nat → Int32} {a : Nat → Nat → Int32} {K : Int32 → (Nat → Int32) → (Nat → Nat → Int32) → Prop} (hh : mT 0 sM_148 2 [(0, .ref 33), (1, .int p1), (2, .int 0)] [] v a K) : mT 0 sM_148 0 [(0, .ref 33), (1, .int p1)] [] v a K := by
  intro A B d dc ds P hP
  refine w_mv (pc1 := 1) (st1 := [.int 0]) rfl rfl rfl ?_
  refine w_mv (pc1 := 2) (lv1 := [(2, .int 0), (0, .ref 33), (1, .int p1)]) (st1 := []) rfl rfl rfl ?_
  refine w_wk (l1 := [(0, .ref 33), (1, .int p1), (2, .int 0)]) rfl ⟨rfl, rfl, rfl, trivial⟩ ?_
  exact hh A B d dc ds P hP
set_option maxRecDepth 20000 in
set_option maxHeartbeats 4000000 in
theorem r_148_2 {p1 : Int32} {p2 : Int32} {v : Nat → Int32} {a : Nat → Nat → Int32} {K : Int32 → (Nat → Int32) → (Nat → Nat → Int32) → Prop} (hh : (((v 43).toInt ≤ p2.toInt → 0 ≤ (v 43).toInt ∧ (v 43).toInt < 14 ∧ K 0 (va_up v 43 (v 43 + 1)) (va_up a 29 (upd (a 29) (v 43).toNatClampNeg p1))) ∧ (p2.toInt < (v 43).toInt → 0 ≤ p2.toInt ∧ p2.toInt < 14 ∧ ((((a 29) p2.toNatClampNeg).toInt ≠ p1.toInt → mT 0 sM_148 2 [(0, .ref 33), (1, .int p1), (2, .int (p2 + 1))] [] v a K) ∧ (((a 29) p2.toNatClampNeg).toInt = p1.toInt → K 0 v a))))) : mT 0 sM_148 2 [(0, .ref 33), (1, .int p1), (2, .int p2)] [] v a K := by
  intro A B d dc ds P hP
  refine w_mv (pc1 := 3) (st1 := [.int p2]) rfl rfl rfl ?_
  refine w_mv (pc1 := 4) (st1 := [.ref 33, .int p2]) rfl rfl rfl ?_
  refine w_mv (pc1 := 7) (st1 := [.int (v 43), .int p2]) rfl rfl rfl ?_
  by_cases h1 : (v 43).toInt ≤ p2.toInt
  ·
    replace hh := hh.1 h1
    refine w_ige_T (pc1 := 27) rfl rfl (show (v 43).toInt ≤ p2.toInt from h1) ?_
    refine w_mv (pc1 := 28) (st1 := [.ref 33]) rfl rfl rfl ?_
    refine w_mv (pc1 := 31) (st1 := [.ref 56]) rfl rfl rfl ?_
    refine w_mv (pc1 := 32) (st1 := [.ref 33, .ref 56]) rfl rfl rfl ?_
    refine w_mv (pc1 := 35) (st1 := [.int (v 43), .ref 56]) rfl rfl rfl ?_
    refine w_mv (pc1 := 36) (st1 := [.int p1, .int (v 43), .ref 56]) rfl rfl rfl ?_
    obtain ⟨o2a, o2b, hh⟩ := hh
    refine w_ast (x := 56) (t := 0) (n := 14) (f := (a 29)) (ty := .int) (nw := fun x => x) (pc1 := 37) (hs1 := mH A B v (va_up a 29 (upd (a 29) (v 43).toNatClampNeg p1))) rfl rfl rfl rfl rfl rfl o2a o2b rfl mst_29 ?_
    refine w_mv (pc1 := 38) (st1 := [.ref 33]) rfl rfl rfl ?_
    refine w_mv (pc1 := 39) (st1 := [.ref 33, .ref 33]) rfl rfl rfl ?_
    refine w_mv (pc1 := 42) (st1 := [.int (v 43), .ref 33]) rfl rfl rfl ?_
    refine w_mv (pc1 := 43) (st1 := [.int 1, .int (v 43), .ref 33]) rfl rfl rfl ?_
    refine w_mv (pc1 := 44) (st1 := [.int (v 43 + 1), .ref 33]) rfl rfl rfl ?_
    refine w_st (pc1 := 47) (st1 := []) (hs1 := mH A B (va_up v 43 (v 43 + 1)) (va_up a 29 (upd (a 29) (v 43).toNatClampNeg p1))) (dc1 := 0) (ds1 := 0) (dc2 := dc) (ds2 := ds) rfl rfl rfl rfl rfl ?_
    exact sx_wp.stop rfl rfl rfl (hP 0 _ _ hh)
  ·
    replace hh := hh.2 (Int.not_le.mp h1)
    refine w_ige_F (pc1 := 10) rfl (by decide) rfl (show p2.toInt < (v 43).toInt from (Int.not_le.mp h1)) ?_
    refine w_mv (pc1 := 11) (st1 := [.ref 33]) rfl rfl rfl ?_
    refine w_mv (pc1 := 14) (st1 := [.ref 56]) rfl rfl rfl ?_
    refine w_mv (pc1 := 15) (st1 := [.int p2, .ref 56]) rfl rfl rfl ?_
    obtain ⟨o3a, o3b, hh⟩ := hh
    refine w_ald (x := 56) (t := 0) (A := (14, .inl (a 29))) (v := .int ((a 29) p2.toNatClampNeg)) (pc1 := 16) rfl rfl rfl rfl rfl o3a o3b rfl rfl ?_
    refine w_mv (pc1 := 17) (st1 := [.int p1, .int ((a 29) p2.toNatClampNeg)]) rfl rfl rfl ?_
    by_cases h4 : ((a 29) p2.toNatClampNeg).toInt = p1.toInt
    ·
      replace hh := hh.2 h4
      refine w_ine_F (pc1 := 20) rfl (by decide) rfl (show ((a 29) p2.toNatClampNeg).toInt = p1.toInt from h4) ?_
      exact sx_wp.stop rfl rfl rfl (hP 0 _ _ hh)
    ·
      replace hh := hh.1 h4
      refine w_ine_T (pc1 := 21) rfl rfl (show ((a 29) p2.toNatClampNeg).toInt ≠ p1.toInt from h4) ?_
      refine w_mv (pc1 := 24) (lv1 := [(2, .int (p2 + 1)), (0, .ref 33), (1, .int p1)]) (st1 := []) rfl rfl rfl ?_
      refine w_mv (pc1 := 2) (st1 := []) rfl rfl rfl ?_
      refine w_wk (l1 := [(0, .ref 33), (1, .int p1), (2, .int (p2 + 1))]) rfl ⟨rfl, rfl, rfl, trivial⟩ ?_
      exact hh A B d dc ds P hP
set_option maxRecDepth 20000 in
set_option maxHeartbeats 4000000 in
theorem r_149_0 {p1 : Int32} {v : Nat → Int32} {a : Nat → Nat → Int32} {K : Int32 → (Nat → Int32) → (Nat → Nat → Int32) → Prop} (hh : 0 ≤ p1.toInt ∧ p1.toInt < 61 ∧ 0 ≤ p1.toInt ∧ p1.toInt < 61 ∧ mT 0 sM_149 42 [(0, .ref 33), (1, .int p1), (2, .int 0)] [] (va_up (va_up v 41 (v 41 + 1)) 40 (v 40 + 1)) (va_up (va_up a 24 (upd (a 24) p1.toNatClampNeg (v 41 + 1))) 25 (upd (a 25) p1.toNatClampNeg (v 43))) K) : mT 0 sM_149 0 [(0, .ref 33), (1, .int p1)] [] v a K := by
  intro A B d dc ds P hP
  refine w_mv (pc1 := 1) (st1 := [.ref 33]) rfl rfl rfl ?_
  refine w_mv (pc1 := 2) (st1 := [.ref 33, .ref 33]) rfl rfl rfl ?_
  refine w_mv (pc1 := 5) (st1 := [.int (v 41), .ref 33]) rfl rfl rfl ?_
  refine w_mv (pc1 := 6) (st1 := [.int 1, .int (v 41), .ref 33]) rfl rfl rfl ?_
  refine w_mv (pc1 := 7) (st1 := [.int (v 41 + 1), .ref 33]) rfl rfl rfl ?_
  refine w_st (pc1 := 10) (st1 := []) (hs1 := mH A B (va_up v 41 (v 41 + 1)) a) (dc1 := 0) (ds1 := 0) (dc2 := dc) (ds2 := ds) rfl rfl rfl rfl rfl ?_
  refine w_mv (pc1 := 11) (st1 := [.ref 33]) rfl rfl rfl ?_
  refine w_mv (pc1 := 12) (st1 := [.ref 33, .ref 33]) rfl rfl rfl ?_
  refine w_mv (pc1 := 15) (st1 := [.int (v 40), .ref 33]) rfl rfl rfl ?_
  refine w_mv (pc1 := 16) (st1 := [.int 1, .int (v 40), .ref 33]) rfl rfl rfl ?_
  refine w_mv (pc1 := 17) (st1 := [.int (v 40 + 1), .ref 33]) rfl rfl rfl ?_
  refine w_st (pc1 := 20) (st1 := []) (hs1 := mH A B (va_up (va_up v 41 (v 41 + 1)) 40 (v 40 + 1)) a) (dc1 := 0) (ds1 := 0) (dc2 := dc) (ds2 := ds) rfl rfl rfl rfl rfl ?_
  refine w_mv (pc1 := 21) (st1 := [.ref 33]) rfl rfl rfl ?_
  refine w_mv (pc1 := 24) (st1 := [.ref 51]) rfl rfl rfl ?_
  refine w_mv (pc1 := 25) (st1 := [.int p1, .ref 51]) rfl rfl rfl ?_
  refine w_mv (pc1 := 26) (st1 := [.ref 33, .int p1, .ref 51]) rfl rfl rfl ?_
  refine w_mv (pc1 := 29) (st1 := [.int (v 41 + 1), .int p1, .ref 51]) rfl rfl rfl ?_
  obtain ⟨o1a, o1b, hh⟩ := hh
  refine w_ast (x := 51) (t := 0) (n := 61) (f := (a 24)) (ty := .int) (nw := fun x => x) (pc1 := 30) (hs1 := mH A B (va_up (va_up v 41 (v 41 + 1)) 40 (v 40 + 1)) (va_up a 24 (upd (a 24) p1.toNatClampNeg (v 41 + 1)))) rfl rfl rfl rfl rfl rfl o1a o1b rfl mst_24 ?_
  refine w_mv (pc1 := 31) (st1 := [.ref 33]) rfl rfl rfl ?_
  refine w_mv (pc1 := 34) (st1 := [.ref 52]) rfl rfl rfl ?_
  refine w_mv (pc1 := 35) (st1 := [.int p1, .ref 52]) rfl rfl rfl ?_
  refine w_mv (pc1 := 36) (st1 := [.ref 33, .int p1, .ref 52]) rfl rfl rfl ?_
  refine w_mv (pc1 := 39) (st1 := [.int (v 43), .int p1, .ref 52]) rfl rfl rfl ?_
  obtain ⟨o2a, o2b, hh⟩ := hh
  refine w_ast (x := 52) (t := 0) (n := 61) (f := (a 25)) (ty := .int) (nw := fun x => x) (pc1 := 40) (hs1 := mH A B (va_up (va_up v 41 (v 41 + 1)) 40 (v 40 + 1)) (va_up (va_up a 24 (upd (a 24) p1.toNatClampNeg (v 41 + 1))) 25 (upd (a 25) p1.toNatClampNeg (v 43)))) rfl rfl rfl rfl rfl rfl o2a o2b rfl mst_25 ?_
  refine w_mv (pc1 := 41) (st1 := [.int 0]) rfl rfl rfl ?_
  refine w_mv (pc1 := 42) (lv1 := [(2, .int 0), (0, .ref 33), (1, .int p1)]) (st1 := []) rfl rfl rfl ?_
  refine w_wk (l1 := [(0, .ref 33), (1, .int p1), (2, .int 0)]) rfl ⟨rfl, rfl, rfl, trivial⟩ ?_
  exact hh A B d dc ds P hP
set_option maxRecDepth 20000 in
set_option maxHeartbeats 4000000 in
theorem r_149_42 {p1 : Int32} {p2 : Int32} {v : Nat → Int32} {a : Nat → Nat → Int32} {K : Int32 → (Nat → Int32) → (Nat → Nat → Int32) → Prop} (hh : (((v 43).toInt ≤ p2.toInt → K 0 v a) ∧ (p2.toInt < (v 43).toInt → 0 ≤ p2.toInt ∧ p2.toInt < 14 ∧ 0 ≤ ((p1 * 14) + p2).toInt ∧ ((p1 * 14) + p2).toInt < 854 ∧ mT 0 sM_149 42 [(0, .ref 33), (1, .int p1), (2, .int (p2 + 1))] [] v (va_up a 26 (upd (a 26) ((p1 * 14) + p2).toNatClampNeg ((a 29) p2.toNatClampNeg))) K))) : mT 0 sM_149 42 [(0, .ref 33), (1, .int p1), (2, .int p2)] [] v a K := by
  intro A B d dc ds P hP
  refine w_mv (pc1 := 43) (st1 := [.int p2]) rfl rfl rfl ?_
  refine w_mv (pc1 := 44) (st1 := [.ref 33, .int p2]) rfl rfl rfl ?_
  refine w_mv (pc1 := 47) (st1 := [.int (v 43), .int p2]) rfl rfl rfl ?_
  by_cases h1 : (v 43).toInt ≤ p2.toInt
  ·
    replace hh := hh.1 h1
    refine w_ige_T (pc1 := 73) rfl rfl (show (v 43).toInt ≤ p2.toInt from h1) ?_
    exact sx_wp.stop rfl rfl rfl (hP 0 _ _ hh)
  ·
    replace hh := hh.2 (Int.not_le.mp h1)
    refine w_ige_F (pc1 := 50) rfl (by decide) rfl (show p2.toInt < (v 43).toInt from (Int.not_le.mp h1)) ?_
    refine w_mv (pc1 := 51) (st1 := [.ref 33]) rfl rfl rfl ?_
    refine w_mv (pc1 := 54) (st1 := [.ref 53]) rfl rfl rfl ?_
    refine w_mv (pc1 := 55) (st1 := [.int p1, .ref 53]) rfl rfl rfl ?_
    refine w_mv (pc1 := 57) (st1 := [.int 14, .int p1, .ref 53]) rfl rfl rfl ?_
    refine w_mv (pc1 := 58) (st1 := [.int (p1 * 14), .ref 53]) rfl rfl rfl ?_
    refine w_mv (pc1 := 59) (st1 := [.int p2, .int (p1 * 14), .ref 53]) rfl rfl rfl ?_
    refine w_mv (pc1 := 60) (st1 := [.int ((p1 * 14) + p2), .ref 53]) rfl rfl rfl ?_
    refine w_mv (pc1 := 61) (st1 := [.ref 33, .int ((p1 * 14) + p2), .ref 53]) rfl rfl rfl ?_
    refine w_mv (pc1 := 64) (st1 := [.ref 56, .int ((p1 * 14) + p2), .ref 53]) rfl rfl rfl ?_
    refine w_mv (pc1 := 65) (st1 := [.int p2, .ref 56, .int ((p1 * 14) + p2), .ref 53]) rfl rfl rfl ?_
    obtain ⟨o2a, o2b, hh⟩ := hh
    refine w_ald (x := 56) (t := 0) (A := (14, .inl (a 29))) (v := .int ((a 29) p2.toNatClampNeg)) (pc1 := 66) rfl rfl rfl rfl rfl o2a o2b rfl rfl ?_
    obtain ⟨o3a, o3b, hh⟩ := hh
    refine w_ast (x := 53) (t := 0) (n := 854) (f := (a 26)) (ty := .int) (nw := fun x => x) (pc1 := 67) (hs1 := mH A B v (va_up a 26 (upd (a 26) ((p1 * 14) + p2).toNatClampNeg ((a 29) p2.toNatClampNeg)))) rfl rfl rfl rfl rfl rfl o3a o3b rfl mst_26 ?_
    refine w_mv (pc1 := 70) (lv1 := [(2, .int (p2 + 1)), (0, .ref 33), (1, .int p1)]) (st1 := []) rfl rfl rfl ?_
    refine w_mv (pc1 := 42) (st1 := []) rfl rfl rfl ?_
    refine w_wk (l1 := [(0, .ref 33), (1, .int p1), (2, .int (p2 + 1))]) rfl ⟨rfl, rfl, rfl, trivial⟩ ?_
    exact hh A B d dc ds P hP
set_option maxRecDepth 20000 in
set_option maxHeartbeats 4000000 in
theorem r_150_0 {p1 : Int32} {v : Nat → Int32} {a : Nat → Nat → Int32} {K : Int32 → (Nat → Int32) → (Nat → Nat → Int32) → Prop} (hh : 0 ≤ p1.toInt ∧ p1.toInt < 61 ∧ mT 0 sM_136 0 [(0, .ref 33), (1, .int ((a 21) p1.toNatClampNeg))] [] v a (fun r2 v2 a2 => 0 ≤ p1.toInt ∧ p1.toInt < 61 ∧ mT 0 sM_136 0 [(0, .ref 33), (1, .int ((a2 22) p1.toNatClampNeg))] [] v2 a2 (fun r4 v4 a4 => 0 ≤ p1.toInt ∧ p1.toInt < 61 ∧ ((r2.toInt < 0 → ((0 ≤ r2.toInt → mT 0 sM_148 0 [(0, .ref 33), (1, .int r4)] [] (va_up v4 43 0) a4 (fun _ v8 a8 => mT 0 sM_149 0 [(0, .ref 33), (1, .int p1)] [] v8 a8 (fun _ v9 a9 => K 0 v9 a9))) ∧ (r2.toInt < 0 → mT 0 sM_148 0 [(0, .ref 33), (1, .int r2)] [] (va_up v4 43 0) a4 (fun _ v10 a10 => mT 0 sM_149 0 [(0, .ref 33), (1, .int p1)] [] v10 a10 (fun _ v11 a11 => K 0 v11 a11))))) ∧ (0 ≤ r2.toInt → ((0 ≤ r4.toInt → 0 ≤ p1.toInt ∧ p1.toInt < 61 ∧ ((r2.toInt < 0 → K 0 (va_up (va_up v4 43 0) 11 3) (va_up a4 30 (upd (a4 30) p1.toNatClampNeg 0))) ∧ (0 ≤ r2.toInt → 0 ≤ r2.toInt ∧ r2.toInt < 26000 ∧ ((((a4 14) r2.toNatClampNeg).toInt ≠ 0 → K 0 (va_up (va_up v4 43 0) 11 3) (va_up a4 30 (upd (a4 30) p1.toNatClampNeg 0))) ∧ (((a4 14) r2.toNatClampNeg).toInt = 0 → ((r4.toInt < 0 → K 0 (va_up (va_up v4 43 0) 11 3) (va_up a4 30 (upd (a4 30) p1.toNatClampNeg 0))) ∧ (0 ≤ r4.toInt → 0 ≤ r4.toInt ∧ r4.toInt < 26000 ∧ ((((a4 14) r4.toNatClampNeg).toInt ≠ 0 → K 0 (va_up (va_up v4 43 0) 11 3) (va_up a4 30 (upd (a4 30) p1.toNatClampNeg 0))) ∧ (((a4 14) r4.toNatClampNeg).toInt = 0 → 0 ≤ (r2 * 3).toInt ∧ (r2 * 3).toInt < 78000 ∧ 0 ≤ (r4 * 3).toInt ∧ (r4 * 3).toInt < 78000 ∧ 0 ≤ p1.toInt ∧ p1.toInt < 61 ∧ ((((a4 23) p1.toNatClampNeg).toInt ≠ 43 → ((((a4 23) p1.toNatClampNeg).toInt ≠ 45 → 0 ≤ (v4 37).toInt ∧ (v4 37).toInt < 26000 ∧ 0 ≤ (v4 37).toInt ∧ (v4 37).toInt < 26000 ∧ 0 ≤ ((v4 37 + 1 - 1) * 3).toInt ∧ ((v4 37 + 1 - 1) * 3).toInt < 78000 ∧ mT 2 sM_151 0 [(0, .ref 33), (1, .int ((a4 20) p1.toNatClampNeg)), (2, .int (v4 37 + 1 - 1))] [] (va_up (va_up v4 43 0) 37 (v4 37 + 1)) (va_up (va_up (va_up (va_up a4 30 (upd (a4 30) p1.toNatClampNeg 0)) 14 (upd (a4 14) (v4 37).toNatClampNeg 0)) 15 (upd (a4 15) (v4 37).toNatClampNeg 0)) 16 (upd (a4 16) ((v4 37 + 1 - 1) * 3).toNatClampNeg (((a4 16) (r2 * 3).toNatClampNeg) * ((a4 16) (r4 * 3).toNatClampNeg)))) (fun r36 v36 a36 => K 0 (va_up v36 11 r36) a36)) ∧ (((a4 23) p1.toNatClampNeg).toInt = 45 → 0 ≤ (v4 37).toInt ∧ (v4 37).toInt < 26000 ∧ 0 ≤ (v4 37).toInt ∧ (v4 37).toInt < 26000 ∧ 0 ≤ ((v4 37 + 1 - 1) * 3).toInt ∧ ((v4 37 + 1 - 1) * 3).toInt < 78000 ∧ mT 2 sM_151 0 [(0, .ref 33), (1, .int ((a4 20) p1.toNatClampNeg)), (2, .int (v4 37 + 1 - 1))] [] (va_up (va_up v4 43 0) 37 (v4 37 + 1)) (va_up (va_up (va_up (va_up a4 30 (upd (a4 30) p1.toNatClampNeg 0)) 14 (upd (a4 14) (v4 37).toNatClampNeg 0)) 15 (upd (a4 15) (v4 37).toNatClampNeg 0)) 16 (upd (a4 16) ((v4 37 + 1 - 1) * 3).toNatClampNeg (((a4 16) (r2 * 3).toNatClampNeg) - ((a4 16) (r4 * 3).toNatClampNeg)))) (fun r32 v32 a32 => K 0 (va_up v32 11 r32) a32)))) ∧ (((a4 23) p1.toNatClampNeg).toInt = 43 → 0 ≤ (v4 37).toInt ∧ (v4 37).toInt < 26000 ∧ 0 ≤ (v4 37).toInt ∧ (v4 37).toInt < 26000 ∧ 0 ≤ ((v4 37 + 1 - 1) * 3).toInt ∧ ((v4 37 + 1 - 1) * 3).toInt < 78000 ∧ mT 2 sM_151 0 [(0, .ref 33), (1, .int ((a4 20) p1.toNatClampNeg)), (2, .int (v4 37 + 1 - 1))] [] (va_up (va_up v4 43 0) 37 (v4 37 + 1)) (va_up (va_up (va_up (va_up a4 30 (upd (a4 30) p1.toNatClampNeg 0)) 14 (upd (a4 14) (v4 37).toNatClampNeg 0)) 15 (upd (a4 15) (v4 37).toNatClampNeg 0)) 16 (upd (a4 16) ((v4 37 + 1 - 1) * 3).toNatClampNeg (((a4 16) (r2 * 3).toNatClampNeg) + ((a4 16) (r4 * 3).toNatClampNeg)))) (fun r27 v27 a27 => K 0 (va_up v27 11 r27) a27)))))))))))) ∧ (r4.toInt < 0 → ((0 ≤ r2.toInt → mT 0 sM_148 0 [(0, .ref 33), (1, .int r4)] [] (va_up v4 43 0) a4 (fun _ v38 a38 => mT 0 sM_149 0 [(0, .ref 33), (1, .int p1)] [] v38 a38 (fun _ v39 a39 => K 0 v39 a39))) ∧ (r2.toInt < 0 → mT 0 sM_148 0 [(0, .ref 33), (1, .int r2)] [] (va_up v4 43 0) a4 (fun _ v40 a40 => mT 0 sM_149 0 [(0, .ref 33), (1, .int p1)] [] v40 a40 (fun _ v41 a41 => K 0 v41 a41))))))))))) : mT 3 sM_150 0 [(0, .ref 33), (1, .int p1)] [] v a K := by
  intro A B d dc ds P hP
  refine w_mv (pc1 := 1) (st1 := [.ref 33]) rfl rfl rfl ?_
  refine w_mv (pc1 := 2) (st1 := [.ref 33, .ref 33]) rfl rfl rfl ?_
  refine w_mv (pc1 := 5) (st1 := [.ref 48, .ref 33]) rfl rfl rfl ?_
  refine w_mv (pc1 := 6) (st1 := [.int p1, .ref 48, .ref 33]) rfl rfl rfl ?_
  obtain ⟨o1a, o1b, hh⟩ := hh
  refine w_ald (x := 48) (t := 0) (A := (61, .inl (a 21))) (v := .int ((a 21) p1.toNatClampNeg)) (pc1 := 7) rfl rfl rfl rfl rfl o1a o1b rfl rfl ?_
  refine w_call (M' := sM_136) (vals := [.ref 33, .int ((a 21) p1.toNatClampNeg)]) (rest := []) (lv' := [(0, .ref 33), (1, .int ((a 21) p1.toNatClampNeg))]) rfl rfl rfl rfl rfl rfl rfl rfl rfl rfl ?_
  refine hh A B _ dc ds _ (fun r2 v2 a2 hh => ?_)
  show s_kont _ _ _ _ _ _ _ (.inl (some (.int r2))) (mH A B v2 a2) dc ds
  refine w_ki (pc1 := 10) rfl ?_
  refine w_mv (pc1 := 11) (lv1 := [(2, .int r2), (0, .ref 33), (1, .int p1)]) (st1 := []) rfl rfl rfl ?_
  refine w_mv (pc1 := 12) (st1 := [.ref 33]) rfl rfl rfl ?_
  refine w_mv (pc1 := 13) (st1 := [.ref 33, .ref 33]) rfl rfl rfl ?_
  refine w_mv (pc1 := 16) (st1 := [.ref 49, .ref 33]) rfl rfl rfl ?_
  refine w_mv (pc1 := 17) (st1 := [.int p1, .ref 49, .ref 33]) rfl rfl rfl ?_
  obtain ⟨o3a, o3b, hh⟩ := hh
  refine w_ald (x := 49) (t := 0) (A := (61, .inl (a2 22))) (v := .int ((a2 22) p1.toNatClampNeg)) (pc1 := 18) rfl rfl rfl rfl rfl o3a o3b rfl rfl ?_
  refine w_call (M' := sM_136) (vals := [.ref 33, .int ((a2 22) p1.toNatClampNeg)]) (rest := []) (lv' := [(0, .ref 33), (1, .int ((a2 22) p1.toNatClampNeg))]) rfl rfl rfl rfl rfl rfl rfl rfl rfl rfl ?_
  refine hh A B _ dc ds _ (fun r4 v4 a4 hh => ?_)
  show s_kont _ _ _ _ _ _ _ (.inl (some (.int r4))) (mH A B v4 a4) dc ds
  refine w_ki (pc1 := 21) rfl ?_
  refine w_mv (pc1 := 22) (lv1 := [(3, .int r4), (2, .int r2), (0, .ref 33), (1, .int p1)]) (st1 := []) rfl rfl rfl ?_
  refine w_mv (pc1 := 23) (st1 := [.ref 33]) rfl rfl rfl ?_
  refine w_mv (pc1 := 26) (st1 := [.ref 50]) rfl rfl rfl ?_
  refine w_mv (pc1 := 27) (st1 := [.int p1, .ref 50]) rfl rfl rfl ?_
  obtain ⟨o5a, o5b, hh⟩ := hh
  refine w_ald (x := 50) (t := 0) (A := (61, .inl (a4 23))) (v := .int ((a4 23) p1.toNatClampNeg)) (pc1 := 28) rfl rfl rfl rfl rfl o5a o5b rfl rfl ?_
  refine w_mv (pc1 := 30) (lv1 := [(4, .int ((a4 23) p1.toNatClampNeg)), (3, .int r4), (2, .int r2), (0, .ref 33), (1, .int p1)]) (st1 := []) rfl rfl rfl ?_
  refine w_mv (pc1 := 31) (st1 := [.ref 33]) rfl rfl rfl ?_
  refine w_mv (pc1 := 32) (st1 := [.int 0, .ref 33]) rfl rfl rfl ?_
  refine w_st (pc1 := 35) (st1 := []) (hs1 := mH A B (va_up v4 43 0) a4) (dc1 := 0) (ds1 := 0) (dc2 := dc) (ds2 := ds) rfl rfl rfl rfl rfl ?_
  refine w_mv (pc1 := 36) (st1 := [.int r2]) rfl rfl rfl ?_
  by_cases h6 : r2.toInt < 0
  ·
    replace hh := hh.1 h6
    refine w_zlt_T (pc1 := 43) rfl rfl (show r2.toInt < 0 from h6) ?_
    refine w_mv (pc1 := 44) (st1 := [.ref 33]) rfl rfl rfl ?_
    refine w_mv (pc1 := 45) (st1 := [.int r2, .ref 33]) rfl rfl rfl ?_
    by_cases h7 : 0 ≤ r2.toInt
    ·
      replace hh := hh.1 h7
      refine w_zge_T (pc1 := 52) rfl rfl (show 0 ≤ r2.toInt from h7) ?_
      refine w_mv (pc1 := 53) (st1 := [.int r4, .ref 33]) rfl rfl rfl ?_
      refine w_call (M' := sM_148) (vals := [.ref 33, .int r4]) (rest := []) (lv' := [(0, .ref 33), (1, .int r4)]) rfl rfl rfl rfl rfl rfl rfl rfl rfl rfl ?_
      refine hh A B _ dc ds _ (fun r8 v8 a8 hh => ?_)
      show s_kont _ _ _ _ _ _ _ (.inl none) (mH A B v8 a8) dc ds
      refine w_kv (pc1 := 56) rfl ?_
      refine w_mv (pc1 := 57) (st1 := [.ref 33]) rfl rfl rfl ?_
      refine w_mv (pc1 := 58) (st1 := [.int p1, .ref 33]) rfl rfl rfl ?_
      refine w_call (M' := sM_149) (vals := [.ref 33, .int p1]) (rest := []) (lv' := [(0, .ref 33), (1, .int p1)]) rfl rfl rfl rfl rfl rfl rfl rfl rfl rfl ?_
      refine hh A B _ dc ds _ (fun r9 v9 a9 hh => ?_)
      show s_kont _ _ _ _ _ _ _ (.inl none) (mH A B v9 a9) dc ds
      refine w_kv (pc1 := 61) rfl ?_
      exact sx_wp.stop rfl rfl rfl (hP 0 _ _ hh)
    ·
      replace hh := hh.2 (Int.not_le.mp h7)
      refine w_zge_F (pc1 := 48) rfl (by decide) rfl (show r2.toInt < 0 from (Int.not_le.mp h7)) ?_
      refine w_mv (pc1 := 49) (st1 := [.int r2, .ref 33]) rfl rfl rfl ?_
      refine w_mv (pc1 := 53) (st1 := [.int r2, .ref 33]) rfl rfl rfl ?_
      refine w_call (M' := sM_148) (vals := [.ref 33, .int r2]) (rest := []) (lv' := [(0, .ref 33), (1, .int r2)]) rfl rfl rfl rfl rfl rfl rfl rfl rfl rfl ?_
      refine hh A B _ dc ds _ (fun r10 v10 a10 hh => ?_)
      show s_kont _ _ _ _ _ _ _ (.inl none) (mH A B v10 a10) dc ds
      refine w_kv (pc1 := 56) rfl ?_
      refine w_mv (pc1 := 57) (st1 := [.ref 33]) rfl rfl rfl ?_
      refine w_mv (pc1 := 58) (st1 := [.int p1, .ref 33]) rfl rfl rfl ?_
      refine w_call (M' := sM_149) (vals := [.ref 33, .int p1]) (rest := []) (lv' := [(0, .ref 33), (1, .int p1)]) rfl rfl rfl rfl rfl rfl rfl rfl rfl rfl ?_
      refine hh A B _ dc ds _ (fun r11 v11 a11 hh => ?_)
      show s_kont _ _ _ _ _ _ _ (.inl none) (mH A B v11 a11) dc ds
      refine w_kv (pc1 := 61) rfl ?_
      exact sx_wp.stop rfl rfl rfl (hP 0 _ _ hh)
  ·
    replace hh := hh.2 (Int.not_lt.mp h6)
    refine w_zlt_F (pc1 := 39) rfl (by decide) rfl (show 0 ≤ r2.toInt from (Int.not_lt.mp h6)) ?_
    refine w_mv (pc1 := 40) (st1 := [.int r4]) rfl rfl rfl ?_
    by_cases h12 : 0 ≤ r4.toInt
    ·
      replace hh := hh.1 h12
      refine w_zge_T (pc1 := 62) rfl rfl (show 0 ≤ r4.toInt from h12) ?_
      refine w_mv (pc1 := 63) (st1 := [.ref 33]) rfl rfl rfl ?_
      refine w_mv (pc1 := 66) (st1 := [.ref 57]) rfl rfl rfl ?_
      refine w_mv (pc1 := 67) (st1 := [.int p1, .ref 57]) rfl rfl rfl ?_
      refine w_mv (pc1 := 68) (st1 := [.int 0, .int p1, .ref 57]) rfl rfl rfl ?_
      obtain ⟨o13a, o13b, hh⟩ := hh
      refine w_ast (x := 57) (t := 2) (n := 61) (f := (a4 30)) (ty := .boolean) (nw := vp_nar .boolean) (pc1 := 69) (hs1 := mH A B (va_up v4 43 0) (va_up a4 30 (upd (a4 30) p1.toNatClampNeg 0))) rfl rfl rfl rfl rfl rfl o13a o13b rfl mst_30 ?_
      refine w_mv (pc1 := 70) (st1 := [.ref 33]) rfl rfl rfl ?_
      refine w_mv (pc1 := 71) (st1 := [.int r2, .ref 33]) rfl rfl rfl ?_
      refine w_call (M' := sM_144) (vals := [.ref 33, .int r2]) (rest := []) (lv' := [(0, .ref 33), (1, .int r2)]) rfl rfl rfl rfl rfl rfl rfl rfl rfl rfl ?_
      refine w_mv (pc1 := 1) (st1 := [.int r2]) rfl rfl rfl ?_
      by_cases h14 : r2.toInt < 0
      ·
        replace hh := hh.1 h14
        refine w_zlt_T (pc1 := 17) rfl rfl (show r2.toInt < 0 from h14) ?_
        refine w_mv (pc1 := 18) (st1 := [.int 0]) rfl rfl rfl ?_
        refine w_iret (pc1 := 74) rfl rfl rfl rfl ?_
        refine w_mv (pc1 := 85) (st1 := []) rfl rfl rfl ?_
        refine w_mv (pc1 := 86) (st1 := [.ref 33]) rfl rfl rfl ?_
        refine w_mv (pc1 := 87) (st1 := [.int 3, .ref 33]) rfl rfl rfl ?_
        refine w_st (pc1 := 90) (st1 := []) (hs1 := mH A B (va_up (va_up v4 43 0) 11 3) (va_up a4 30 (upd (a4 30) p1.toNatClampNeg 0))) (dc1 := 0) (ds1 := 0) (dc2 := dc) (ds2 := ds) rfl rfl rfl rfl rfl ?_
        exact sx_wp.stop rfl rfl rfl (hP 0 _ _ hh)
      ·
        replace hh := hh.2 (Int.not_lt.mp h14)
        refine w_zlt_F (pc1 := 4) rfl (by decide) rfl (show 0 ≤ r2.toInt from (Int.not_lt.mp h14)) ?_
        refine w_mv (pc1 := 5) (st1 := [.ref 33]) rfl rfl rfl ?_
        refine w_mv (pc1 := 8) (st1 := [.ref 41]) rfl rfl rfl ?_
        refine w_mv (pc1 := 9) (st1 := [.int r2, .ref 41]) rfl rfl rfl ?_
        obtain ⟨o15a, o15b, hh⟩ := hh
        refine w_ald (x := 41) (t := 0) (A := (26000, .inl (a4 14))) (v := .int ((a4 14) r2.toNatClampNeg)) (pc1 := 10) rfl rfl rfl rfl rfl o15a o15b rfl rfl ?_
        by_cases h16 : ((a4 14) r2.toNatClampNeg).toInt = 0
        ·
          replace hh := hh.2 h16
          refine w_zne_F (pc1 := 13) rfl (by decide) rfl (show ((a4 14) r2.toNatClampNeg).toInt = 0 from h16) ?_
          refine w_mv (pc1 := 14) (st1 := [.int 1]) rfl rfl rfl ?_
          refine w_mv (pc1 := 18) (st1 := [.int 1]) rfl rfl rfl ?_
          refine w_iret (pc1 := 74) rfl rfl rfl rfl ?_
          refine w_mv (pc1 := 77) (st1 := []) rfl rfl rfl ?_
          refine w_mv (pc1 := 78) (st1 := [.ref 33]) rfl rfl rfl ?_
          refine w_mv (pc1 := 79) (st1 := [.int r4, .ref 33]) rfl rfl rfl ?_
          refine w_call (M' := sM_144) (vals := [.ref 33, .int r4]) (rest := []) (lv' := [(0, .ref 33), (1, .int r4)]) rfl rfl rfl rfl rfl rfl rfl rfl rfl rfl ?_
          refine w_mv (pc1 := 1) (st1 := [.int r4]) rfl rfl rfl ?_
          by_cases h17 : r4.toInt < 0
          ·
            replace hh := hh.1 h17
            refine w_zlt_T (pc1 := 17) rfl rfl (show r4.toInt < 0 from h17) ?_
            refine w_mv (pc1 := 18) (st1 := [.int 0]) rfl rfl rfl ?_
            refine w_iret (pc1 := 82) rfl rfl rfl rfl ?_
            refine w_mv (pc1 := 85) (st1 := []) rfl rfl rfl ?_
            refine w_mv (pc1 := 86) (st1 := [.ref 33]) rfl rfl rfl ?_
            refine w_mv (pc1 := 87) (st1 := [.int 3, .ref 33]) rfl rfl rfl ?_
            refine w_st (pc1 := 90) (st1 := []) (hs1 := mH A B (va_up (va_up v4 43 0) 11 3) (va_up a4 30 (upd (a4 30) p1.toNatClampNeg 0))) (dc1 := 0) (ds1 := 0) (dc2 := dc) (ds2 := ds) rfl rfl rfl rfl rfl ?_
            exact sx_wp.stop rfl rfl rfl (hP 0 _ _ hh)
          ·
            replace hh := hh.2 (Int.not_lt.mp h17)
            refine w_zlt_F (pc1 := 4) rfl (by decide) rfl (show 0 ≤ r4.toInt from (Int.not_lt.mp h17)) ?_
            refine w_mv (pc1 := 5) (st1 := [.ref 33]) rfl rfl rfl ?_
            refine w_mv (pc1 := 8) (st1 := [.ref 41]) rfl rfl rfl ?_
            refine w_mv (pc1 := 9) (st1 := [.int r4, .ref 41]) rfl rfl rfl ?_
            obtain ⟨o18a, o18b, hh⟩ := hh
            refine w_ald (x := 41) (t := 0) (A := (26000, .inl (a4 14))) (v := .int ((a4 14) r4.toNatClampNeg)) (pc1 := 10) rfl rfl rfl rfl rfl o18a o18b rfl rfl ?_
            by_cases h19 : ((a4 14) r4.toNatClampNeg).toInt = 0
            ·
              replace hh := hh.2 h19
              refine w_zne_F (pc1 := 13) rfl (by decide) rfl (show ((a4 14) r4.toNatClampNeg).toInt = 0 from h19) ?_
              refine w_mv (pc1 := 14) (st1 := [.int 1]) rfl rfl rfl ?_
              refine w_mv (pc1 := 18) (st1 := [.int 1]) rfl rfl rfl ?_
              refine w_iret (pc1 := 82) rfl rfl rfl rfl ?_
              refine w_mv (pc1 := 91) (st1 := []) rfl rfl rfl ?_
              refine w_mv (pc1 := 92) (st1 := [.ref 33]) rfl rfl rfl ?_
              refine w_mv (pc1 := 95) (st1 := [.ref 43]) rfl rfl rfl ?_
              refine w_mv (pc1 := 96) (st1 := [.int r2, .ref 43]) rfl rfl rfl ?_
              refine w_mv (pc1 := 97) (st1 := [.int 3, .int r2, .ref 43]) rfl rfl rfl ?_
              refine w_mv (pc1 := 98) (st1 := [.int (r2 * 3), .ref 43]) rfl rfl rfl ?_
              obtain ⟨o20a, o20b, hh⟩ := hh
              refine w_ald (x := 43) (t := 0) (A := (78000, .inl (a4 16))) (v := .int ((a4 16) (r2 * 3).toNatClampNeg)) (pc1 := 99) rfl rfl rfl rfl rfl o20a o20b rfl rfl ?_
              refine w_mv (pc1 := 101) (lv1 := [(5, .int ((a4 16) (r2 * 3).toNatClampNeg)), (4, .int ((a4 23) p1.toNatClampNeg)), (3, .int r4), (2, .int r2), (0, .ref 33), (1, .int p1)]) (st1 := []) rfl rfl rfl ?_
              refine w_mv (pc1 := 102) (st1 := [.ref 33]) rfl rfl rfl ?_
              refine w_mv (pc1 := 105) (st1 := [.ref 43]) rfl rfl rfl ?_
              refine w_mv (pc1 := 106) (st1 := [.int r4, .ref 43]) rfl rfl rfl ?_
              refine w_mv (pc1 := 107) (st1 := [.int 3, .int r4, .ref 43]) rfl rfl rfl ?_
              refine w_mv (pc1 := 108) (st1 := [.int (r4 * 3), .ref 43]) rfl rfl rfl ?_
              obtain ⟨o21a, o21b, hh⟩ := hh
              refine w_ald (x := 43) (t := 0) (A := (78000, .inl (a4 16))) (v := .int ((a4 16) (r4 * 3).toNatClampNeg)) (pc1 := 109) rfl rfl rfl rfl rfl o21a o21b rfl rfl ?_
              refine w_mv (pc1 := 111) (lv1 := [(6, .int ((a4 16) (r4 * 3).toNatClampNeg)), (5, .int ((a4 16) (r2 * 3).toNatClampNeg)), (4, .int ((a4 23) p1.toNatClampNeg)), (3, .int r4), (2, .int r2), (0, .ref 33), (1, .int p1)]) (st1 := []) rfl rfl rfl ?_
              refine w_mv (pc1 := 112) (st1 := [.ref 33]) rfl rfl rfl ?_
              refine w_mv (pc1 := 113) (st1 := [.ref 33, .ref 33]) rfl rfl rfl ?_
              refine w_mv (pc1 := 114) (st1 := [.ref 33, .ref 33, .ref 33]) rfl rfl rfl ?_
              refine w_mv (pc1 := 117) (st1 := [.ref 47, .ref 33, .ref 33]) rfl rfl rfl ?_
              refine w_mv (pc1 := 118) (st1 := [.int p1, .ref 47, .ref 33, .ref 33]) rfl rfl rfl ?_
              obtain ⟨o22a, o22b, hh⟩ := hh
              refine w_ald (x := 47) (t := 0) (A := (61, .inl (a4 20))) (v := .int ((a4 20) p1.toNatClampNeg)) (pc1 := 119) rfl rfl rfl rfl rfl o22a o22b rfl rfl ?_
              refine w_mv (pc1 := 120) (st1 := [.ref 33, .int ((a4 20) p1.toNatClampNeg), .ref 33, .ref 33]) rfl rfl rfl ?_
              refine w_mv (pc1 := 122) (st1 := [.int ((a4 23) p1.toNatClampNeg), .ref 33, .int ((a4 20) p1.toNatClampNeg), .ref 33, .ref 33]) rfl rfl rfl ?_
              refine w_mv (pc1 := 124) (st1 := [.int 43, .int ((a4 23) p1.toNatClampNeg), .ref 33, .int ((a4 20) p1.toNatClampNeg), .ref 33, .ref 33]) rfl rfl rfl ?_
              by_cases h23 : ((a4 23) p1.toNatClampNeg).toInt = 43
              ·
                replace hh := hh.2 h23
                refine w_ine_F (pc1 := 127) rfl (by decide) rfl (show ((a4 23) p1.toNatClampNeg).toInt = 43 from h23) ?_
                refine w_mv (pc1 := 129) (st1 := [.int ((a4 16) (r2 * 3).toNatClampNeg), .ref 33, .int ((a4 20) p1.toNatClampNeg), .ref 33, .ref 33]) rfl rfl rfl ?_
                refine w_mv (pc1 := 131) (st1 := [.int ((a4 16) (r4 * 3).toNatClampNeg), .int ((a4 16) (r2 * 3).toNatClampNeg), .ref 33, .int ((a4 20) p1.toNatClampNeg), .ref 33, .ref 33]) rfl rfl rfl ?_
                refine w_mv (pc1 := 132) (st1 := [.int (((a4 16) (r2 * 3).toNatClampNeg) + ((a4 16) (r4 * 3).toNatClampNeg)), .ref 33, .int ((a4 20) p1.toNatClampNeg), .ref 33, .ref 33]) rfl rfl rfl ?_
                refine w_mv (pc1 := 155) (st1 := [.int (((a4 16) (r2 * 3).toNatClampNeg) + ((a4 16) (r4 * 3).toNatClampNeg)), .ref 33, .int ((a4 20) p1.toNatClampNeg), .ref 33, .ref 33]) rfl rfl rfl ?_
                refine w_call (M' := sM_128) (vals := [.ref 33, .int (((a4 16) (r2 * 3).toNatClampNeg) + ((a4 16) (r4 * 3).toNatClampNeg))]) (rest := [.int ((a4 20) p1.toNatClampNeg), .ref 33, .ref 33]) (lv' := [(0, .ref 33), (1, .int (((a4 16) (r2 * 3).toNatClampNeg) + ((a4 16) (r4 * 3).toNatClampNeg)))]) rfl rfl rfl rfl rfl rfl rfl rfl rfl rfl ?_
                refine w_mv (pc1 := 1) (st1 := [.ref 33]) rfl rfl rfl ?_
                refine w_mv (pc1 := 2) (st1 := [.int 0, .ref 33]) rfl rfl rfl ?_
                refine w_call (M' := sM_127) (vals := [.ref 33, .int 0]) (rest := []) (lv' := [(0, .ref 33), (1, .int 0)]) rfl rfl rfl rfl rfl rfl rfl rfl rfl rfl ?_
                refine w_mv (pc1 := 1) (st1 := [.ref 33]) rfl rfl rfl ?_
                refine w_mv (pc1 := 4) (st1 := [.ref 41]) rfl rfl rfl ?_
                refine w_mv (pc1 := 5) (st1 := [.ref 33, .ref 41]) rfl rfl rfl ?_
                refine w_mv (pc1 := 8) (st1 := [.int (v4 37), .ref 41]) rfl rfl rfl ?_
                refine w_mv (pc1 := 9) (st1 := [.int 0, .int (v4 37), .ref 41]) rfl rfl rfl ?_
                obtain ⟨o24a, o24b, hh⟩ := hh
                refine w_ast (x := 41) (t := 0) (n := 26000) (f := (a4 14)) (ty := .int) (nw := fun x => x) (pc1 := 10) (hs1 := mH A B (va_up v4 43 0) (va_up (va_up a4 30 (upd (a4 30) p1.toNatClampNeg 0)) 14 (upd (a4 14) (v4 37).toNatClampNeg 0))) rfl rfl rfl rfl rfl rfl o24a o24b rfl mst_14 ?_
                refine w_mv (pc1 := 11) (st1 := [.ref 33]) rfl rfl rfl ?_
                refine w_mv (pc1 := 14) (st1 := [.ref 42]) rfl rfl rfl ?_
                refine w_mv (pc1 := 15) (st1 := [.ref 33, .ref 42]) rfl rfl rfl ?_
                refine w_mv (pc1 := 18) (st1 := [.int (v4 37), .ref 42]) rfl rfl rfl ?_
                refine w_mv (pc1 := 19) (st1 := [.int 0, .int (v4 37), .ref 42]) rfl rfl rfl ?_
                obtain ⟨o25a, o25b, hh⟩ := hh
                refine w_ast (x := 42) (t := 0) (n := 26000) (f := (a4 15)) (ty := .int) (nw := fun x => x) (pc1 := 20) (hs1 := mH A B (va_up v4 43 0) (va_up (va_up (va_up a4 30 (upd (a4 30) p1.toNatClampNeg 0)) 14 (upd (a4 14) (v4 37).toNatClampNeg 0)) 15 (upd (a4 15) (v4 37).toNatClampNeg 0))) rfl rfl rfl rfl rfl rfl o25a o25b rfl mst_15 ?_
                refine w_mv (pc1 := 21) (st1 := [.ref 33]) rfl rfl rfl ?_
                refine w_mv (pc1 := 22) (st1 := [.ref 33, .ref 33]) rfl rfl rfl ?_
                refine w_mv (pc1 := 25) (st1 := [.int (v4 37), .ref 33]) rfl rfl rfl ?_
                refine w_mv (pc1 := 26) (st1 := [.int 1, .int (v4 37), .ref 33]) rfl rfl rfl ?_
                refine w_mv (pc1 := 27) (st1 := [.int (v4 37 + 1), .ref 33]) rfl rfl rfl ?_
                refine w_st (pc1 := 30) (st1 := []) (hs1 := mH A B (va_up (va_up v4 43 0) 37 (v4 37 + 1)) (va_up (va_up (va_up a4 30 (upd (a4 30) p1.toNatClampNeg 0)) 14 (upd (a4 14) (v4 37).toNatClampNeg 0)) 15 (upd (a4 15) (v4 37).toNatClampNeg 0))) (dc1 := 0) (ds1 := 0) (dc2 := dc) (ds2 := ds) rfl rfl rfl rfl rfl ?_
                refine w_mv (pc1 := 31) (st1 := [.ref 33]) rfl rfl rfl ?_
                refine w_mv (pc1 := 34) (st1 := [.int (v4 37 + 1)]) rfl rfl rfl ?_
                refine w_mv (pc1 := 35) (st1 := [.int 1, .int (v4 37 + 1)]) rfl rfl rfl ?_
                refine w_mv (pc1 := 36) (st1 := [.int (v4 37 + 1 - 1)]) rfl rfl rfl ?_
                refine w_iret (pc1 := 5) rfl rfl rfl rfl ?_
                refine w_mv (pc1 := 6) (lv1 := [(2, .int (v4 37 + 1 - 1)), (0, .ref 33), (1, .int (((a4 16) (r2 * 3).toNatClampNeg) + ((a4 16) (r4 * 3).toNatClampNeg)))]) (st1 := []) rfl rfl rfl ?_
                refine w_mv (pc1 := 7) (st1 := [.ref 33]) rfl rfl rfl ?_
                refine w_mv (pc1 := 10) (st1 := [.ref 43]) rfl rfl rfl ?_
                refine w_mv (pc1 := 11) (st1 := [.int (v4 37 + 1 - 1), .ref 43]) rfl rfl rfl ?_
                refine w_mv (pc1 := 12) (st1 := [.int 3, .int (v4 37 + 1 - 1), .ref 43]) rfl rfl rfl ?_
                refine w_mv (pc1 := 13) (st1 := [.int ((v4 37 + 1 - 1) * 3), .ref 43]) rfl rfl rfl ?_
                refine w_mv (pc1 := 14) (st1 := [.int (((a4 16) (r2 * 3).toNatClampNeg) + ((a4 16) (r4 * 3).toNatClampNeg)), .int ((v4 37 + 1 - 1) * 3), .ref 43]) rfl rfl rfl ?_
                obtain ⟨o26a, o26b, hh⟩ := hh
                refine w_ast (x := 43) (t := 0) (n := 78000) (f := (a4 16)) (ty := .int) (nw := fun x => x) (pc1 := 15) (hs1 := mH A B (va_up (va_up v4 43 0) 37 (v4 37 + 1)) (va_up (va_up (va_up (va_up a4 30 (upd (a4 30) p1.toNatClampNeg 0)) 14 (upd (a4 14) (v4 37).toNatClampNeg 0)) 15 (upd (a4 15) (v4 37).toNatClampNeg 0)) 16 (upd (a4 16) ((v4 37 + 1 - 1) * 3).toNatClampNeg (((a4 16) (r2 * 3).toNatClampNeg) + ((a4 16) (r4 * 3).toNatClampNeg))))) rfl rfl rfl rfl rfl rfl o26a o26b rfl mst_16 ?_
                refine w_mv (pc1 := 16) (st1 := [.int (v4 37 + 1 - 1)]) rfl rfl rfl ?_
                refine w_iret (pc1 := 158) rfl rfl rfl rfl ?_
                refine w_call (M' := sM_151) (vals := [.ref 33, .int ((a4 20) p1.toNatClampNeg), .int (v4 37 + 1 - 1)]) (rest := [.ref 33]) (lv' := [(0, .ref 33), (1, .int ((a4 20) p1.toNatClampNeg)), (2, .int (v4 37 + 1 - 1))]) rfl rfl rfl rfl rfl rfl rfl rfl rfl rfl ?_
                refine hh A B _ dc ds _ (fun r27 v27 a27 hh => ?_)
                show s_kont _ _ _ _ _ _ _ (.inl (some (.int r27))) (mH A B v27 a27) dc ds
                refine w_ki (pc1 := 161) rfl ?_
                refine w_st (pc1 := 164) (st1 := []) (hs1 := mH A B (va_up v27 11 r27) a27) (dc1 := 0) (ds1 := 0) (dc2 := dc) (ds2 := ds) rfl rfl rfl rfl rfl ?_
                exact sx_wp.stop rfl rfl rfl (hP 0 _ _ hh)
              ·
                replace hh := hh.1 h23
                refine w_ine_T (pc1 := 135) rfl rfl (show ((a4 23) p1.toNatClampNeg).toInt ≠ 43 from h23) ?_
                refine w_mv (pc1 := 137) (st1 := [.int ((a4 23) p1.toNatClampNeg), .ref 33, .int ((a4 20) p1.toNatClampNeg), .ref 33, .ref 33]) rfl rfl rfl ?_
                refine w_mv (pc1 := 139) (st1 := [.int 45, .int ((a4 23) p1.toNatClampNeg), .ref 33, .int ((a4 20) p1.toNatClampNeg), .ref 33, .ref 33]) rfl rfl rfl ?_
                by_cases h28 : ((a4 23) p1.toNatClampNeg).toInt = 45
                ·
                  replace hh := hh.2 h28
                  refine w_ine_F (pc1 := 142) rfl (by decide) rfl (show ((a4 23) p1.toNatClampNeg).toInt = 45 from h28) ?_
                  refine w_mv (pc1 := 144) (st1 := [.int ((a4 16) (r2 * 3).toNatClampNeg), .ref 33, .int ((a4 20) p1.toNatClampNeg), .ref 33, .ref 33]) rfl rfl rfl ?_
                  refine w_mv (pc1 := 146) (st1 := [.int ((a4 16) (r4 * 3).toNatClampNeg), .int ((a4 16) (r2 * 3).toNatClampNeg), .ref 33, .int ((a4 20) p1.toNatClampNeg), .ref 33, .ref 33]) rfl rfl rfl ?_
                  refine w_mv (pc1 := 147) (st1 := [.int (((a4 16) (r2 * 3).toNatClampNeg) - ((a4 16) (r4 * 3).toNatClampNeg)), .ref 33, .int ((a4 20) p1.toNatClampNeg), .ref 33, .ref 33]) rfl rfl rfl ?_
                  refine w_mv (pc1 := 155) (st1 := [.int (((a4 16) (r2 * 3).toNatClampNeg) - ((a4 16) (r4 * 3).toNatClampNeg)), .ref 33, .int ((a4 20) p1.toNatClampNeg), .ref 33, .ref 33]) rfl rfl rfl ?_
                  refine w_call (M' := sM_128) (vals := [.ref 33, .int (((a4 16) (r2 * 3).toNatClampNeg) - ((a4 16) (r4 * 3).toNatClampNeg))]) (rest := [.int ((a4 20) p1.toNatClampNeg), .ref 33, .ref 33]) (lv' := [(0, .ref 33), (1, .int (((a4 16) (r2 * 3).toNatClampNeg) - ((a4 16) (r4 * 3).toNatClampNeg)))]) rfl rfl rfl rfl rfl rfl rfl rfl rfl rfl ?_
                  refine w_mv (pc1 := 1) (st1 := [.ref 33]) rfl rfl rfl ?_
                  refine w_mv (pc1 := 2) (st1 := [.int 0, .ref 33]) rfl rfl rfl ?_
                  refine w_call (M' := sM_127) (vals := [.ref 33, .int 0]) (rest := []) (lv' := [(0, .ref 33), (1, .int 0)]) rfl rfl rfl rfl rfl rfl rfl rfl rfl rfl ?_
                  refine w_mv (pc1 := 1) (st1 := [.ref 33]) rfl rfl rfl ?_
                  refine w_mv (pc1 := 4) (st1 := [.ref 41]) rfl rfl rfl ?_
                  refine w_mv (pc1 := 5) (st1 := [.ref 33, .ref 41]) rfl rfl rfl ?_
                  refine w_mv (pc1 := 8) (st1 := [.int (v4 37), .ref 41]) rfl rfl rfl ?_
                  refine w_mv (pc1 := 9) (st1 := [.int 0, .int (v4 37), .ref 41]) rfl rfl rfl ?_
                  obtain ⟨o29a, o29b, hh⟩ := hh
                  refine w_ast (x := 41) (t := 0) (n := 26000) (f := (a4 14)) (ty := .int) (nw := fun x => x) (pc1 := 10) (hs1 := mH A B (va_up v4 43 0) (va_up (va_up a4 30 (upd (a4 30) p1.toNatClampNeg 0)) 14 (upd (a4 14) (v4 37).toNatClampNeg 0))) rfl rfl rfl rfl rfl rfl o29a o29b rfl mst_14 ?_
                  refine w_mv (pc1 := 11) (st1 := [.ref 33]) rfl rfl rfl ?_
                  refine w_mv (pc1 := 14) (st1 := [.ref 42]) rfl rfl rfl ?_
                  refine w_mv (pc1 := 15) (st1 := [.ref 33, .ref 42]) rfl rfl rfl ?_
                  refine w_mv (pc1 := 18) (st1 := [.int (v4 37), .ref 42]) rfl rfl rfl ?_
                  refine w_mv (pc1 := 19) (st1 := [.int 0, .int (v4 37), .ref 42]) rfl rfl rfl ?_
                  obtain ⟨o30a, o30b, hh⟩ := hh
                  refine w_ast (x := 42) (t := 0) (n := 26000) (f := (a4 15)) (ty := .int) (nw := fun x => x) (pc1 := 20) (hs1 := mH A B (va_up v4 43 0) (va_up (va_up (va_up a4 30 (upd (a4 30) p1.toNatClampNeg 0)) 14 (upd (a4 14) (v4 37).toNatClampNeg 0)) 15 (upd (a4 15) (v4 37).toNatClampNeg 0))) rfl rfl rfl rfl rfl rfl o30a o30b rfl mst_15 ?_
                  refine w_mv (pc1 := 21) (st1 := [.ref 33]) rfl rfl rfl ?_
                  refine w_mv (pc1 := 22) (st1 := [.ref 33, .ref 33]) rfl rfl rfl ?_
                  refine w_mv (pc1 := 25) (st1 := [.int (v4 37), .ref 33]) rfl rfl rfl ?_
                  refine w_mv (pc1 := 26) (st1 := [.int 1, .int (v4 37), .ref 33]) rfl rfl rfl ?_
                  refine w_mv (pc1 := 27) (st1 := [.int (v4 37 + 1), .ref 33]) rfl rfl rfl ?_
                  refine w_st (pc1 := 30) (st1 := []) (hs1 := mH A B (va_up (va_up v4 43 0) 37 (v4 37 + 1)) (va_up (va_up (va_up a4 30 (upd (a4 30) p1.toNatClampNeg 0)) 14 (upd (a4 14) (v4 37).toNatClampNeg 0)) 15 (upd (a4 15) (v4 37).toNatClampNeg 0))) (dc1 := 0) (ds1 := 0) (dc2 := dc) (ds2 := ds) rfl rfl rfl rfl rfl ?_
                  refine w_mv (pc1 := 31) (st1 := [.ref 33]) rfl rfl rfl ?_
                  refine w_mv (pc1 := 34) (st1 := [.int (v4 37 + 1)]) rfl rfl rfl ?_
                  refine w_mv (pc1 := 35) (st1 := [.int 1, .int (v4 37 + 1)]) rfl rfl rfl ?_
                  refine w_mv (pc1 := 36) (st1 := [.int (v4 37 + 1 - 1)]) rfl rfl rfl ?_
                  refine w_iret (pc1 := 5) rfl rfl rfl rfl ?_
                  refine w_mv (pc1 := 6) (lv1 := [(2, .int (v4 37 + 1 - 1)), (0, .ref 33), (1, .int (((a4 16) (r2 * 3).toNatClampNeg) - ((a4 16) (r4 * 3).toNatClampNeg)))]) (st1 := []) rfl rfl rfl ?_
                  refine w_mv (pc1 := 7) (st1 := [.ref 33]) rfl rfl rfl ?_
                  refine w_mv (pc1 := 10) (st1 := [.ref 43]) rfl rfl rfl ?_
                  refine w_mv (pc1 := 11) (st1 := [.int (v4 37 + 1 - 1), .ref 43]) rfl rfl rfl ?_
                  refine w_mv (pc1 := 12) (st1 := [.int 3, .int (v4 37 + 1 - 1), .ref 43]) rfl rfl rfl ?_
                  refine w_mv (pc1 := 13) (st1 := [.int ((v4 37 + 1 - 1) * 3), .ref 43]) rfl rfl rfl ?_
                  refine w_mv (pc1 := 14) (st1 := [.int (((a4 16) (r2 * 3).toNatClampNeg) - ((a4 16) (r4 * 3).toNatClampNeg)), .int ((v4 37 + 1 - 1) * 3), .ref 43]) rfl rfl rfl ?_
                  obtain ⟨o31a, o31b, hh⟩ := hh
                  refine w_ast (x := 43) (t := 0) (n := 78000) (f := (a4 16)) (ty := .int) (nw := fun x => x) (pc1 := 15) (hs1 := mH A B (va_up (va_up v4 43 0) 37 (v4 37 + 1)) (va_up (va_up (va_up (va_up a4 30 (upd (a4 30) p1.toNatClampNeg 0)) 14 (upd (a4 14) (v4 37).toNatClampNeg 0)) 15 (upd (a4 15) (v4 37).toNatClampNeg 0)) 16 (upd (a4 16) ((v4 37 + 1 - 1) * 3).toNatClampNeg (((a4 16) (r2 * 3).toNatClampNeg) - ((a4 16) (r4 * 3).toNatClampNeg))))) rfl rfl rfl rfl rfl rfl o31a o31b rfl mst_16 ?_
                  refine w_mv (pc1 := 16) (st1 := [.int (v4 37 + 1 - 1)]) rfl rfl rfl ?_
                  refine w_iret (pc1 := 158) rfl rfl rfl rfl ?_
                  refine w_call (M' := sM_151) (vals := [.ref 33, .int ((a4 20) p1.toNatClampNeg), .int (v4 37 + 1 - 1)]) (rest := [.ref 33]) (lv' := [(0, .ref 33), (1, .int ((a4 20) p1.toNatClampNeg)), (2, .int (v4 37 + 1 - 1))]) rfl rfl rfl rfl rfl rfl rfl rfl rfl rfl ?_
                  refine hh A B _ dc ds _ (fun r32 v32 a32 hh => ?_)
                  show s_kont _ _ _ _ _ _ _ (.inl (some (.int r32))) (mH A B v32 a32) dc ds
                  refine w_ki (pc1 := 161) rfl ?_
                  refine w_st (pc1 := 164) (st1 := []) (hs1 := mH A B (va_up v32 11 r32) a32) (dc1 := 0) (ds1 := 0) (dc2 := dc) (ds2 := ds) rfl rfl rfl rfl rfl ?_
                  exact sx_wp.stop rfl rfl rfl (hP 0 _ _ hh)
                ·
                  replace hh := hh.1 h28
                  refine w_ine_T (pc1 := 150) rfl rfl (show ((a4 23) p1.toNatClampNeg).toInt ≠ 45 from h28) ?_
                  refine w_mv (pc1 := 152) (st1 := [.int ((a4 16) (r2 * 3).toNatClampNeg), .ref 33, .int ((a4 20) p1.toNatClampNeg), .ref 33, .ref 33]) rfl rfl rfl ?_
                  refine w_mv (pc1 := 154) (st1 := [.int ((a4 16) (r4 * 3).toNatClampNeg), .int ((a4 16) (r2 * 3).toNatClampNeg), .ref 33, .int ((a4 20) p1.toNatClampNeg), .ref 33, .ref 33]) rfl rfl rfl ?_
                  refine w_mv (pc1 := 155) (st1 := [.int (((a4 16) (r2 * 3).toNatClampNeg) * ((a4 16) (r4 * 3).toNatClampNeg)), .ref 33, .int ((a4 20) p1.toNatClampNeg), .ref 33, .ref 33]) rfl rfl rfl ?_
                  refine w_call (M' := sM_128) (vals := [.ref 33, .int (((a4 16) (r2 * 3).toNatClampNeg) * ((a4 16) (r4 * 3).toNatClampNeg))]) (rest := [.int ((a4 20) p1.toNatClampNeg), .ref 33, .ref 33]) (lv' := [(0, .ref 33), (1, .int (((a4 16) (r2 * 3).toNatClampNeg) * ((a4 16) (r4 * 3).toNatClampNeg)))]) rfl rfl rfl rfl rfl rfl rfl rfl rfl rfl ?_
                  refine w_mv (pc1 := 1) (st1 := [.ref 33]) rfl rfl rfl ?_
                  refine w_mv (pc1 := 2) (st1 := [.int 0, .ref 33]) rfl rfl rfl ?_
                  refine w_call (M' := sM_127) (vals := [.ref 33, .int 0]) (rest := []) (lv' := [(0, .ref 33), (1, .int 0)]) rfl rfl rfl rfl rfl rfl rfl rfl rfl rfl ?_
                  refine w_mv (pc1 := 1) (st1 := [.ref 33]) rfl rfl rfl ?_
                  refine w_mv (pc1 := 4) (st1 := [.ref 41]) rfl rfl rfl ?_
                  refine w_mv (pc1 := 5) (st1 := [.ref 33, .ref 41]) rfl rfl rfl ?_
                  refine w_mv (pc1 := 8) (st1 := [.int (v4 37), .ref 41]) rfl rfl rfl ?_
                  refine w_mv (pc1 := 9) (st1 := [.int 0, .int (v4 37), .ref 41]) rfl rfl rfl ?_
                  obtain ⟨o33a, o33b, hh⟩ := hh
                  refine w_ast (x := 41) (t := 0) (n := 26000) (f := (a4 14)) (ty := .int) (nw := fun x => x) (pc1 := 10) (hs1 := mH A B (va_up v4 43 0) (va_up (va_up a4 30 (upd (a4 30) p1.toNatClampNeg 0)) 14 (upd (a4 14) (v4 37).toNatClampNeg 0))) rfl rfl rfl rfl rfl rfl o33a o33b rfl mst_14 ?_
                  refine w_mv (pc1 := 11) (st1 := [.ref 33]) rfl rfl rfl ?_
                  refine w_mv (pc1 := 14) (st1 := [.ref 42]) rfl rfl rfl ?_
                  refine w_mv (pc1 := 15) (st1 := [.ref 33, .ref 42]) rfl rfl rfl ?_
                  refine w_mv (pc1 := 18) (st1 := [.int (v4 37), .ref 42]) rfl rfl rfl ?_
                  refine w_mv (pc1 := 19) (st1 := [.int 0, .int (v4 37), .ref 42]) rfl rfl rfl ?_
                  obtain ⟨o34a, o34b, hh⟩ := hh
                  refine w_ast (x := 42) (t := 0) (n := 26000) (f := (a4 15)) (ty := .int) (nw := fun x => x) (pc1 := 20) (hs1 := mH A B (va_up v4 43 0) (va_up (va_up (va_up a4 30 (upd (a4 30) p1.toNatClampNeg 0)) 14 (upd (a4 14) (v4 37).toNatClampNeg 0)) 15 (upd (a4 15) (v4 37).toNatClampNeg 0))) rfl rfl rfl rfl rfl rfl o34a o34b rfl mst_15 ?_
                  refine w_mv (pc1 := 21) (st1 := [.ref 33]) rfl rfl rfl ?_
                  refine w_mv (pc1 := 22) (st1 := [.ref 33, .ref 33]) rfl rfl rfl ?_
                  refine w_mv (pc1 := 25) (st1 := [.int (v4 37), .ref 33]) rfl rfl rfl ?_
                  refine w_mv (pc1 := 26) (st1 := [.int 1, .int (v4 37), .ref 33]) rfl rfl rfl ?_
                  refine w_mv (pc1 := 27) (st1 := [.int (v4 37 + 1), .ref 33]) rfl rfl rfl ?_
                  refine w_st (pc1 := 30) (st1 := []) (hs1 := mH A B (va_up (va_up v4 43 0) 37 (v4 37 + 1)) (va_up (va_up (va_up a4 30 (upd (a4 30) p1.toNatClampNeg 0)) 14 (upd (a4 14) (v4 37).toNatClampNeg 0)) 15 (upd (a4 15) (v4 37).toNatClampNeg 0))) (dc1 := 0) (ds1 := 0) (dc2 := dc) (ds2 := ds) rfl rfl rfl rfl rfl ?_
                  refine w_mv (pc1 := 31) (st1 := [.ref 33]) rfl rfl rfl ?_
                  refine w_mv (pc1 := 34) (st1 := [.int (v4 37 + 1)]) rfl rfl rfl ?_
                  refine w_mv (pc1 := 35) (st1 := [.int 1, .int (v4 37 + 1)]) rfl rfl rfl ?_
                  refine w_mv (pc1 := 36) (st1 := [.int (v4 37 + 1 - 1)]) rfl rfl rfl ?_
                  refine w_iret (pc1 := 5) rfl rfl rfl rfl ?_
                  refine w_mv (pc1 := 6) (lv1 := [(2, .int (v4 37 + 1 - 1)), (0, .ref 33), (1, .int (((a4 16) (r2 * 3).toNatClampNeg) * ((a4 16) (r4 * 3).toNatClampNeg)))]) (st1 := []) rfl rfl rfl ?_
                  refine w_mv (pc1 := 7) (st1 := [.ref 33]) rfl rfl rfl ?_
                  refine w_mv (pc1 := 10) (st1 := [.ref 43]) rfl rfl rfl ?_
                  refine w_mv (pc1 := 11) (st1 := [.int (v4 37 + 1 - 1), .ref 43]) rfl rfl rfl ?_
                  refine w_mv (pc1 := 12) (st1 := [.int 3, .int (v4 37 + 1 - 1), .ref 43]) rfl rfl rfl ?_
                  refine w_mv (pc1 := 13) (st1 := [.int ((v4 37 + 1 - 1) * 3), .ref 43]) rfl rfl rfl ?_
                  refine w_mv (pc1 := 14) (st1 := [.int (((a4 16) (r2 * 3).toNatClampNeg) * ((a4 16) (r4 * 3).toNatClampNeg)), .int ((v4 37 + 1 - 1) * 3), .ref 43]) rfl rfl rfl ?_
                  obtain ⟨o35a, o35b, hh⟩ := hh
                  refine w_ast (x := 43) (t := 0) (n := 78000) (f := (a4 16)) (ty := .int) (nw := fun x => x) (pc1 := 15) (hs1 := mH A B (va_up (va_up v4 43 0) 37 (v4 37 + 1)) (va_up (va_up (va_up (va_up a4 30 (upd (a4 30) p1.toNatClampNeg 0)) 14 (upd (a4 14) (v4 37).toNatClampNeg 0)) 15 (upd (a4 15) (v4 37).toNatClampNeg 0)) 16 (upd (a4 16) ((v4 37 + 1 - 1) * 3).toNatClampNeg (((a4 16) (r2 * 3).toNatClampNeg) * ((a4 16) (r4 * 3).toNatClampNeg))))) rfl rfl rfl rfl rfl rfl o35a o35b rfl mst_16 ?_
                  refine w_mv (pc1 := 16) (st1 := [.int (v4 37 + 1 - 1)]) rfl rfl rfl ?_
                  refine w_iret (pc1 := 158) rfl rfl rfl rfl ?_
                  refine w_call (M' := sM_151) (vals := [.ref 33, .int ((a4 20) p1.toNatClampNeg), .int (v4 37 + 1 - 1)]) (rest := [.ref 33]) (lv' := [(0, .ref 33), (1, .int ((a4 20) p1.toNatClampNeg)), (2, .int (v4 37 + 1 - 1))]) rfl rfl rfl rfl rfl rfl rfl rfl rfl rfl ?_
                  refine hh A B _ dc ds _ (fun r36 v36 a36 hh => ?_)
                  show s_kont _ _ _ _ _ _ _ (.inl (some (.int r36))) (mH A B v36 a36) dc ds
                  refine w_ki (pc1 := 161) rfl ?_
                  refine w_st (pc1 := 164) (st1 := []) (hs1 := mH A B (va_up v36 11 r36) a36) (dc1 := 0) (ds1 := 0) (dc2 := dc) (ds2 := ds) rfl rfl rfl rfl rfl ?_
                  exact sx_wp.stop rfl rfl rfl (hP 0 _ _ hh)
            ·
              replace hh := hh.1 h19
              refine w_zne_T (pc1 := 17) rfl rfl (show ((a4 14) r4.toNatClampNeg).toInt ≠ 0 from h19) ?_
              refine w_mv (pc1 := 18) (st1 := [.int 0]) rfl rfl rfl ?_
              refine w_iret (pc1 := 82) rfl rfl rfl rfl ?_
              refine w_mv (pc1 := 85) (st1 := []) rfl rfl rfl ?_
              refine w_mv (pc1 := 86) (st1 := [.ref 33]) rfl rfl rfl ?_
              refine w_mv (pc1 := 87) (st1 := [.int 3, .ref 33]) rfl rfl rfl ?_
              refine w_st (pc1 := 90) (st1 := []) (hs1 := mH A B (va_up (va_up v4 43 0) 11 3) (va_up a4 30 (upd (a4 30) p1.toNatClampNeg 0))) (dc1 := 0) (ds1 := 0) (dc2 := dc) (ds2 := ds) rfl rfl rfl rfl rfl ?_
              exact sx_wp.stop rfl rfl rfl (hP 0 _ _ hh)
        ·
          replace hh := hh.1 h16
          refine w_zne_T (pc1 := 17) rfl rfl (show ((a4 14) r2.toNatClampNeg).toInt ≠ 0 from h16) ?_
          refine w_mv (pc1 := 18) (st1 := [.int 0]) rfl rfl rfl ?_
          refine w_iret (pc1 := 74) rfl rfl rfl rfl ?_
          refine w_mv (pc1 := 85) (st1 := []) rfl rfl rfl ?_
          refine w_mv (pc1 := 86) (st1 := [.ref 33]) rfl rfl rfl ?_
          refine w_mv (pc1 := 87) (st1 := [.int 3, .ref 33]) rfl rfl rfl ?_
          refine w_st (pc1 := 90) (st1 := []) (hs1 := mH A B (va_up (va_up v4 43 0) 11 3) (va_up a4 30 (upd (a4 30) p1.toNatClampNeg 0))) (dc1 := 0) (ds1 := 0) (dc2 := dc) (ds2 := ds) rfl rfl rfl rfl rfl ?_
          exact sx_wp.stop rfl rfl rfl (hP 0 _ _ hh)
    ·
      replace hh := hh.2 (Int.not_le.mp h12)
      refine w_zge_F (pc1 := 43) rfl (by decide) rfl (show r4.toInt < 0 from (Int.not_le.mp h12)) ?_
      refine w_mv (pc1 := 44) (st1 := [.ref 33]) rfl rfl rfl ?_
      refine w_mv (pc1 := 45) (st1 := [.int r2, .ref 33]) rfl rfl rfl ?_
      by_cases h37 : 0 ≤ r2.toInt
      ·
        replace hh := hh.1 h37
        refine w_zge_T (pc1 := 52) rfl rfl (show 0 ≤ r2.toInt from h37) ?_
        refine w_mv (pc1 := 53) (st1 := [.int r4, .ref 33]) rfl rfl rfl ?_
        refine w_call (M' := sM_148) (vals := [.ref 33, .int r4]) (rest := []) (lv' := [(0, .ref 33), (1, .int r4)]) rfl rfl rfl rfl rfl rfl rfl rfl rfl rfl ?_
        refine hh A B _ dc ds _ (fun r38 v38 a38 hh => ?_)
        show s_kont _ _ _ _ _ _ _ (.inl none) (mH A B v38 a38) dc ds
        refine w_kv (pc1 := 56) rfl ?_
        refine w_mv (pc1 := 57) (st1 := [.ref 33]) rfl rfl rfl ?_
        refine w_mv (pc1 := 58) (st1 := [.int p1, .ref 33]) rfl rfl rfl ?_
        refine w_call (M' := sM_149) (vals := [.ref 33, .int p1]) (rest := []) (lv' := [(0, .ref 33), (1, .int p1)]) rfl rfl rfl rfl rfl rfl rfl rfl rfl rfl ?_
        refine hh A B _ dc ds _ (fun r39 v39 a39 hh => ?_)
        show s_kont _ _ _ _ _ _ _ (.inl none) (mH A B v39 a39) dc ds
        refine w_kv (pc1 := 61) rfl ?_
        exact sx_wp.stop rfl rfl rfl (hP 0 _ _ hh)
      ·
        replace hh := hh.2 (Int.not_le.mp h37)
        refine w_zge_F (pc1 := 48) rfl (by decide) rfl (show r2.toInt < 0 from (Int.not_le.mp h37)) ?_
        refine w_mv (pc1 := 49) (st1 := [.int r2, .ref 33]) rfl rfl rfl ?_
        refine w_mv (pc1 := 53) (st1 := [.int r2, .ref 33]) rfl rfl rfl ?_
        refine w_call (M' := sM_148) (vals := [.ref 33, .int r2]) (rest := []) (lv' := [(0, .ref 33), (1, .int r2)]) rfl rfl rfl rfl rfl rfl rfl rfl rfl rfl ?_
        refine hh A B _ dc ds _ (fun r40 v40 a40 hh => ?_)
        show s_kont _ _ _ _ _ _ _ (.inl none) (mH A B v40 a40) dc ds
        refine w_kv (pc1 := 56) rfl ?_
        refine w_mv (pc1 := 57) (st1 := [.ref 33]) rfl rfl rfl ?_
        refine w_mv (pc1 := 58) (st1 := [.int p1, .ref 33]) rfl rfl rfl ?_
        refine w_call (M' := sM_149) (vals := [.ref 33, .int p1]) (rest := []) (lv' := [(0, .ref 33), (1, .int p1)]) rfl rfl rfl rfl rfl rfl rfl rfl rfl rfl ?_
        refine hh A B _ dc ds _ (fun r41 v41 a41 hh => ?_)
        show s_kont _ _ _ _ _ _ _ (.inl none) (mH A B v41 a41) dc ds
        refine w_kv (pc1 := 61) rfl ?_
        exact sx_wp.stop rfl rfl rfl (hP 0 _ _ hh)
set_option maxRecDepth 20000 in
set_option maxHeartbeats 4000000 in
theorem r_151_0 {p1 : Int32} {p2 : Int32} {v : Nat → Int32} {a : Nat → Nat → Int32} {K : Int32 → (Nat → Int32) → (Nat → Nat → Int32) → Prop} (hh : mT 2 sM_151 16 [(0, .ref 33), (1, .int p1), (2, .int p2)] [] (va_up (va_up v 46 0) 45 1) (va_up (va_up a 31 (upd (a 31) 0 p1)) 32 (upd (a 32) 0 p2)) K) : mT 2 sM_151 0 [(0, .ref 33), (1, .int p1), (2, .int p2)] [] v a K := by
  intro A B d dc ds P hP
  refine w_mv (pc1 := 1) (st1 := [.ref 33]) rfl rfl rfl ?_
  refine w_mv (pc1 := 2) (st1 := [.int 0, .ref 33]) rfl rfl rfl ?_
  refine w_st (pc1 := 5) (st1 := []) (hs1 := mH A B (va_up v 45 0) a) (dc1 := 0) (ds1 := 0) (dc2 := dc) (ds2 := ds) rfl rfl rfl rfl rfl ?_
  refine w_mv (pc1 := 6) (st1 := [.ref 33]) rfl rfl rfl ?_
  refine w_mv (pc1 := 7) (st1 := [.int 0, .ref 33]) rfl rfl rfl ?_
  refine w_st (pc1 := 10) (st1 := []) (hs1 := mH A B (va_up (va_up v 45 0) 46 0) a) (dc1 := 0) (ds1 := 0) (dc2 := dc) (ds2 := ds) rfl rfl rfl rfl rfl ?_
  refine w_mv (pc1 := 11) (st1 := [.ref 33]) rfl rfl rfl ?_
  refine w_mv (pc1 := 12) (st1 := [.int p1, .ref 33]) rfl rfl rfl ?_
  refine w_mv (pc1 := 13) (st1 := [.int p2, .int p1, .ref 33]) rfl rfl rfl ?_
  refine w_call (M' := sM_142) (vals := [.ref 33, .int p1, .int p2]) (rest := []) (lv' := [(0, .ref 33), (1, .int p1), (2, .int p2)]) rfl rfl rfl rfl rfl rfl rfl rfl rfl rfl ?_
  refine w_mv (pc1 := 1) (st1 := [.ref 33]) rfl rfl rfl ?_
  refine w_mv (pc1 := 4) (st1 := [.ref 58]) rfl rfl rfl ?_
  refine w_mv (pc1 := 5) (st1 := [.ref 33, .ref 58]) rfl rfl rfl ?_
  refine w_mv (pc1 := 8) (st1 := [.int 0, .ref 58]) rfl rfl rfl ?_
  refine w_mv (pc1 := 9) (st1 := [.int p1, .int 0, .ref 58]) rfl rfl rfl ?_
  refine w_ast (x := 58) (t := 0) (n := 200) (f := (a 31)) (ty := .int) (nw := fun x => x) (pc1 := 10) (hs1 := mH A B (va_up (va_up v 45 0) 46 0) (va_up a 31 (upd (a 31) 0 p1))) rfl rfl rfl rfl rfl rfl (by decide) (by decide) rfl mst_31 ?_
  refine w_mv (pc1 := 11) (st1 := [.ref 33]) rfl rfl rfl ?_
  refine w_mv (pc1 := 14) (st1 := [.ref 59]) rfl rfl rfl ?_
  refine w_mv (pc1 := 15) (st1 := [.ref 33, .ref 59]) rfl rfl rfl ?_
  refine w_mv (pc1 := 18) (st1 := [.int 0, .ref 59]) rfl rfl rfl ?_
  refine w_mv (pc1 := 19) (st1 := [.int p2, .int 0, .ref 59]) rfl rfl rfl ?_
  refine w_ast (x := 59) (t := 0) (n := 200) (f := (a 32)) (ty := .int) (nw := fun x => x) (pc1 := 20) (hs1 := mH A B (va_up (va_up v 45 0) 46 0) (va_up (va_up a 31 (upd (a 31) 0 p1)) 32 (upd (a 32) 0 p2))) rfl rfl rfl rfl rfl rfl (by decide) (by decide) rfl mst_32 ?_
  refine w_mv (pc1 := 21) (st1 := [.ref 33]) rfl rfl rfl ?_
  refine w_mv (pc1 := 22) (st1 := [.ref 33, .ref 33]) rfl rfl rfl ?_
  refine w_mv (pc1 := 25) (st1 := [.int 0, .ref 33]) rfl rfl rfl ?_
  refine w_mv (pc1 := 26) (st1 := [.int 1, .int 0, .ref 33]) rfl rfl rfl ?_
  refine w_mv (pc1 := 27) (st1 := [.int 1, .ref 33]) rfl rfl rfl ?_
  refine w_st (pc1 := 30) (st1 := []) (hs1 := mH A B (va_up (va_up v 46 0) 45 1) (va_up (va_up a 31 (upd (a 31) 0 p1)) 32 (upd (a 32) 0 p2))) (dc1 := 0) (ds1 := 0) (dc2 := dc) (ds2 := ds) rfl rfl rfl rfl rfl ?_
  refine w_vret (pc1 := 16) rfl rfl rfl ?_
  refine w_wk (l1 := [(0, .ref 33), (1, .int p1), (2, .int p2)]) rfl ⟨rfl, rfl, rfl, trivial⟩ ?_
  exact hh A B d dc ds P hP
set_option maxRecDepth 20000 in
set_option maxHeartbeats 4000000 in
theorem r_151_16 {p1 : Int32} {p2 : Int32} {v : Nat → Int32} {a : Nat → Nat → Int32} {K : Int32 → (Nat → Int32) → (Nat → Nat → Int32) → Prop} (hh : (((v 45).toInt ≤ 0 → K 0 v a) ∧ (0 < (v 45).toInt → (((v 46).toInt ≠ 60 → 0 ≤ (v 45 - 1).toInt ∧ (v 45 - 1).toInt < 200 ∧ mT 0 sM_136 0 [(0, .ref 33), (1, .int ((a 31) (v 45 - 1).toNatClampNeg))] [] (va_up (va_up v 46 (v 46 + 1)) 45 (v 45 - 1)) a (fun r4 v4 a4 => 0 ≤ (v4 45).toInt ∧ (v4 45).toInt < 200 ∧ mT 0 sM_136 0 [(0, .ref 33), (1, .int ((a4 32) (v4 45).toNatClampNeg))] [] v4 a4 (fun r6 v6 a6 => ((r4.toInt ≠ r6.toInt → ((0 ≤ r4.toInt → ((0 ≤ r6.toInt → mT 1 sM_143 0 [(0, .ref 33), (1, .int r4), (2, .int r6)] [] v6 a6 (fun r24 v24 a24 => ((r24.toInt ≠ 0 → mT 2 sM_151 16 [(0, .ref 33), (1, .int p1), (2, .int p2)] [] v24 a24 K) ∧ (r24.toInt = 0 → K 3 v24 a24)))) ∧ (r6.toInt < 0 → mT 1 sM_152 0 [(0, .ref 33), (1, .int r6), (2, .int r4)] [] v6 a6 (fun _ v26 a26 => mT 2 sM_151 16 [(0, .ref 33), (1, .int p1), (2, .int p2)] [] v26 a26 K)))) ∧ (r4.toInt < 0 → ((0 ≤ r6.toInt → mT 1 sM_152 0 [(0, .ref 33), (1, .int r4), (2, .int r6)] [] v6 a6 (fun _ v28 a28 => mT 2 sM_151 16 [(0, .ref 33), (1, .int p1), (2, .int p2)] [] v28 a28 K)) ∧ (r6.toInt < 0 → ((r6.toInt ≤ r4.toInt → ((0 ≤ r6.toInt → mT 1 sM_143 0 [(0, .ref 33), (1, .int r4), (2, .int r6)] [] v6 a6 (fun r31 v31 a31 => ((r31.toInt ≠ 0 → mT 2 sM_151 16 [(0, .ref 33), (1, .int p1), (2, .int p2)] [] v31 a31 K) ∧ (r31.toInt = 0 → K 3 v31 a31)))) ∧ (r6.toInt < 0 → mT 1 sM_152 0 [(0, .ref 33), (1, .int r6), (2, .int r4)] [] v6 a6 (fun _ v33 a33 => mT 2 sM_151 16 [(0, .ref 33), (1, .int p1), (2, .int p2)] [] v33 a33 K)))) ∧ (r4.toInt < r6.toInt → mT 1 sM_152 0 [(0, .ref 33), (1, .int r4), (2, .int r6)] [] v6 a6 (fun _ v34 a34 => mT 2 sM_151 16 [(0, .ref 33), (1, .int p1), (2, .int p2)] [] v34 a34 K)))))))) ∧ (r4.toInt = r6.toInt → ((0 ≤ r4.toInt → ((0 ≤ r4.toInt → ((0 ≤ r6.toInt → mT 1 sM_143 0 [(0, .ref 33), (1, .int r4), (2, .int r6)] [] v6 a6 (fun r11 v11 a11 => ((r11.toInt ≠ 0 → mT 2 sM_151 16 [(0, .ref 33), (1, .int p1), (2, .int p2)] [] v11 a11 K) ∧ (r11.toInt = 0 → K 3 v11 a11)))) ∧ (r6.toInt < 0 → mT 1 sM_152 0 [(0, .ref 33), (1, .int r6), (2, .int r4)] [] v6 a6 (fun _ v13 a13 => mT 2 sM_151 16 [(0, .ref 33), (1, .int p1), (2, .int p2)] [] v13 a13 K)))) ∧ (r4.toInt < 0 → ((0 ≤ r6.toInt → mT 1 sM_152 0 [(0, .ref 33), (1, .int r4), (2, .int r6)] [] v6 a6 (fun _ v15 a15 => mT 2 sM_151 16 [(0, .ref 33), (1, .int p1), (2, .int p2)] [] v15 a15 K)) ∧ (r6.toInt < 0 → ((r6.toInt ≤ r4.toInt → ((0 ≤ r6.toInt → mT 1 sM_143 0 [(0, .ref 33), (1, .int r4), (2, .int r6)] [] v6 a6 (fun r18 v18 a18 => ((r18.toInt ≠ 0 → mT 2 sM_151 16 [(0, .ref 33), (1, .int p1), (2, .int p2)] [] v18 a18 K) ∧ (r18.toInt = 0 → K 3 v18 a18)))) ∧ (r6.toInt < 0 → mT 1 sM_152 0 [(0, .ref 33), (1, .int r6), (2, .int r4)] [] v6 a6 (fun _ v20 a20 => mT 2 sM_151 16 [(0, .ref 33), (1, .int p1), (2, .int p2)] [] v20 a20 K)))) ∧ (r4.toInt < r6.toInt → mT 1 sM_152 0 [(0, .ref 33), (1, .int r4), (2, .int r6)] [] v6 a6 (fun _ v21 a21 => mT 2 sM_151 16 [(0, .ref 33), (1, .int p1), (2, .int p2)] [] v21 a21 K)))))))) ∧ (r4.toInt < 0 → mT 2 sM_151 16 [(0, .ref 33), (1, .int p1), (2, .int p2)] [] v6 a6 K))))))) ∧ ((v 46).toInt = 60 → K 2 v a))))) : mT 2 sM_151 16 [(0, .ref 33), (1, .int p1), (2, .int p2)] [] v a K := by
  intro A B d dc ds P hP
  refine w_mv (pc1 := 17) (st1 := [.ref 33]) rfl rfl rfl ?_
  refine w_mv (pc1 := 20) (st1 := [.int (v 45)]) rfl rfl rfl ?_
  by_cases h1 : (v 45).toInt ≤ 0
  ·
    replace hh := hh.1 h1
    refine w_zle_T (pc1 := 151) rfl rfl (show (v 45).toInt ≤ 0 from h1) ?_
    refine w_mv (pc1 := 152) (st1 := [.int 0]) rfl rfl rfl ?_
    exact sx_wp.stop rfl rfl rfl (hP 0 _ _ hh)
  ·
    replace hh := hh.2 (Int.not_le.mp h1)
    refine w_zle_F (pc1 := 23) rfl (by decide) rfl (show 0 < (v 45).toInt from (Int.not_le.mp h1)) ?_
    refine w_mv (pc1 := 24) (st1 := [.ref 33]) rfl rfl rfl ?_
    refine w_mv (pc1 := 27) (st1 := [.int (v 46)]) rfl rfl rfl ?_
    refine w_mv (pc1 := 29) (st1 := [.int 60, .int (v 46)]) rfl rfl rfl ?_
    by_cases h2 : (v 46).toInt = 60
    ·
      replace hh := hh.2 h2
      refine w_ine_F (pc1 := 32) rfl (by decide) rfl (show (v 46).toInt = 60 from h2) ?_
      refine w_mv (pc1 := 33) (st1 := [.int 2]) rfl rfl rfl ?_
      exact sx_wp.stop rfl rfl rfl (hP 2 _ _ hh)
    ·
      replace hh := hh.1 h2
      refine w_ine_T (pc1 := 34) rfl rfl (show (v 46).toInt ≠ 60 from h2) ?_
      refine w_mv (pc1 := 35) (st1 := [.ref 33]) rfl rfl rfl ?_
      refine w_mv (pc1 := 36) (st1 := [.ref 33, .ref 33]) rfl rfl rfl ?_
      refine w_mv (pc1 := 39) (st1 := [.int (v 46), .ref 33]) rfl rfl rfl ?_
      refine w_mv (pc1 := 40) (st1 := [.int 1, .int (v 46), .ref 33]) rfl rfl rfl ?_
      refine w_mv (pc1 := 41) (st1 := [.int (v 46 + 1), .ref 33]) rfl rfl rfl ?_
      refine w_st (pc1 := 44) (st1 := []) (hs1 := mH A B (va_up v 46 (v 46 + 1)) a) (dc1 := 0) (ds1 := 0) (dc2 := dc) (ds2 := ds) rfl rfl rfl rfl rfl ?_
      refine w_mv (pc1 := 45) (st1 := [.ref 33]) rfl rfl rfl ?_
      refine w_mv (pc1 := 46) (st1 := [.ref 33, .ref 33]) rfl rfl rfl ?_
      refine w_mv (pc1 := 49) (st1 := [.int (v 45), .ref 33]) rfl rfl rfl ?_
      refine w_mv (pc1 := 50) (st1 := [.int 1, .int (v 45), .ref 33]) rfl rfl rfl ?_
      refine w_mv (pc1 := 51) (st1 := [.int (v 45 - 1), .ref 33]) rfl rfl rfl ?_
      refine w_st (pc1 := 54) (st1 := []) (hs1 := mH A B (va_up (va_up v 46 (v 46 + 1)) 45 (v 45 - 1)) a) (dc1 := 0) (ds1 := 0) (dc2 := dc) (ds2 := ds) rfl rfl rfl rfl rfl ?_
      refine w_mv (pc1 := 55) (st1 := [.ref 33]) rfl rfl rfl ?_
      refine w_mv (pc1 := 56) (st1 := [.ref 33, .ref 33]) rfl rfl rfl ?_
      refine w_mv (pc1 := 59) (st1 := [.ref 58, .ref 33]) rfl rfl rfl ?_
      refine w_mv (pc1 := 60) (st1 := [.ref 33, .ref 58, .ref 33]) rfl rfl rfl ?_
      refine w_mv (pc1 := 63) (st1 := [.int (v 45 - 1), .ref 58, .ref 33]) rfl rfl rfl ?_
      obtain ⟨o3a, o3b, hh⟩ := hh
      refine w_ald (x := 58) (t := 0) (A := (200, .inl (a 31))) (v := .int ((a 31) (v 45 - 1).toNatClampNeg)) (pc1 := 64) rfl rfl rfl rfl rfl o3a o3b rfl rfl ?_
      refine w_call (M' := sM_136) (vals := [.ref 33, .int ((a 31) (v 45 - 1).toNatClampNeg)]) (rest := []) (lv' := [(0, .ref 33), (1, .int ((a 31) (v 45 - 1).toNatClampNeg))]) rfl rfl rfl rfl rfl rfl rfl rfl rfl rfl ?_
      refine hh A B _ dc ds _ (fun r4 v4 a4 hh => ?_)
      show s_kont _ _ _ _ _ _ _ (.inl (some (.int r4))) (mH A B v4 a4) dc ds
      refine w_ki (pc1 := 67) rfl ?_
      refine w_mv (pc1 := 68) (lv1 := [(3, .int r4), (0, .ref 33), (1, .int p1), (2, .int p2)]) (st1 := []) rfl rfl rfl ?_
      refine w_mv (pc1 := 69) (st1 := [.ref 33]) rfl rfl rfl ?_
      refine w_mv (pc1 := 70) (st1 := [.ref 33, .ref 33]) rfl rfl rfl ?_
      refine w_mv (pc1 := 73) (st1 := [.ref 59, .ref 33]) rfl rfl rfl ?_
      refine w_mv (pc1 := 74) (st1 := [.ref 33, .ref 59, .ref 33]) rfl rfl rfl ?_
      refine w_mv (pc1 := 77) (st1 := [.int (v4 45), .ref 59, .ref 33]) rfl rfl rfl ?_
      obtain ⟨o5a, o5b, hh⟩ := hh
      refine w_ald (x := 59) (t := 0) (A := (200, .inl (a4 32))) (v := .int ((a4 32) (v4 45).toNatClampNeg)) (pc1 := 78) rfl rfl rfl rfl rfl o5a o5b rfl rfl ?_
      refine w_call (M' := sM_136) (vals := [.ref 33, .int ((a4 32) (v4 45).toNatClampNeg)]) (rest := []) (lv' := [(0, .ref 33), (1, .int ((a4 32) (v4 45).toNatClampNeg))]) rfl rfl rfl rfl rfl rfl rfl rfl rfl rfl ?_
      refine hh A B _ dc ds _ (fun r6 v6 a6 hh => ?_)
      show s_kont _ _ _ _ _ _ _ (.inl (some (.int r6))) (mH A B v6 a6) dc ds
      refine w_ki (pc1 := 81) rfl ?_
      refine w_mv (pc1 := 83) (lv1 := [(4, .int r6), (3, .int r4), (0, .ref 33), (1, .int p1), (2, .int p2)]) (st1 := []) rfl rfl rfl ?_
      refine w_mv (pc1 := 84) (st1 := [.int r4]) rfl rfl rfl ?_
      refine w_mv (pc1 := 86) (st1 := [.int r6, .int r4]) rfl rfl rfl ?_
      by_cases h7 : r4.toInt = r6.toInt
      ·
        replace hh := hh.2 h7
        refine w_ine_F (pc1 := 89) rfl (by decide) rfl (show r4.toInt = r6.toInt from h7) ?_
        refine w_mv (pc1 := 90) (st1 := [.int r4]) rfl rfl rfl ?_
        by_cases h8 : 0 ≤ r4.toInt
        ·
          replace hh := hh.1 h8
          refine w_zge_T (pc1 := 96) rfl rfl (show 0 ≤ r4.toInt from h8) ?_
          refine w_mv (pc1 := 97) (st1 := [.int r4]) rfl rfl rfl ?_
          by_cases h9 : 0 ≤ r4.toInt
          ·
            replace hh := hh.1 h9
            refine w_zge_T (pc1 := 121) rfl rfl (show 0 ≤ r4.toInt from h9) ?_
            refine w_mv (pc1 := 123) (st1 := [.int r6]) rfl rfl rfl ?_
            by_cases h10 : 0 ≤ r6.toInt
            ·
              replace hh := hh.1 h10
              refine w_zge_T (pc1 := 136) rfl rfl (show 0 ≤ r6.toInt from h10) ?_
              refine w_mv (pc1 := 137) (st1 := [.ref 33]) rfl rfl rfl ?_
              refine w_mv (pc1 := 138) (st1 := [.int r4, .ref 33]) rfl rfl rfl ?_
              refine w_mv (pc1 := 140) (st1 := [.int r6, .int r4, .ref 33]) rfl rfl rfl ?_
              refine w_call (M' := sM_143) (vals := [.ref 33, .int r4, .int r6]) (rest := []) (lv' := [(0, .ref 33), (1, .int r4), (2, .int r6)]) rfl rfl rfl rfl rfl rfl rfl rfl rfl rfl ?_
              refine hh A B _ dc ds _ (fun r11 v11 a11 hh => ?_)
              show s_kont _ _ _ _ _ _ _ (.inl (some (.int r11))) (mH A B v11 a11) dc ds
              refine w_ki (pc1 := 143) rfl ?_
              by_cases h12 : r11.toInt = 0
              ·
                replace hh := hh.2 h12
                refine w_zne_F (pc1 := 146) rfl (by decide) rfl (show r11.toInt = 0 from h12) ?_
                refine w_mv (pc1 := 147) (st1 := [.int 3]) rfl rfl rfl ?_
                exact sx_wp.stop rfl rfl rfl (hP 3 _ _ hh)
              ·
                replace hh := hh.1 h12
                refine w_zne_T (pc1 := 148) rfl rfl (show r11.toInt ≠ 0 from h12) ?_
                refine w_mv (pc1 := 16) (st1 := []) rfl rfl rfl ?_
                refine w_wk (l1 := [(0, .ref 33), (1, .int p1), (2, .int p2)]) rfl ⟨rfl, rfl, rfl, trivial⟩ ?_
                exact hh A B d dc ds P hP
            ·
              replace hh := hh.2 (Int.not_le.mp h10)
              refine w_zge_F (pc1 := 126) rfl (by decide) rfl (show r6.toInt < 0 from (Int.not_le.mp h10)) ?_
              refine w_mv (pc1 := 127) (st1 := [.ref 33]) rfl rfl rfl ?_
              refine w_mv (pc1 := 129) (st1 := [.int r6, .ref 33]) rfl rfl rfl ?_
              refine w_mv (pc1 := 130) (st1 := [.int r4, .int r6, .ref 33]) rfl rfl rfl ?_
              refine w_call (M' := sM_152) (vals := [.ref 33, .int r6, .int r4]) (rest := []) (lv' := [(0, .ref 33), (1, .int r6), (2, .int r4)]) rfl rfl rfl rfl rfl rfl rfl rfl rfl rfl ?_
              refine hh A B _ dc ds _ (fun r13 v13 a13 hh => ?_)
              show s_kont _ _ _ _ _ _ _ (.inl none) (mH A B v13 a13) dc ds
              refine w_kv (pc1 := 133) rfl ?_
              refine w_mv (pc1 := 148) (st1 := []) rfl rfl rfl ?_
              refine w_mv (pc1 := 16) (st1 := []) rfl rfl rfl ?_
              refine w_wk (l1 := [(0, .ref 33), (1, .int p1), (2, .int p2)]) rfl ⟨rfl, rfl, rfl, trivial⟩ ?_
              exact hh A B d dc ds P hP
          ·
            replace hh := hh.2 (Int.not_le.mp h9)
            refine w_zge_F (pc1 := 100) rfl (by decide) rfl (show r4.toInt < 0 from (Int.not_le.mp h9)) ?_
            refine w_mv (pc1 := 102) (st1 := [.int r6]) rfl rfl rfl ?_
            by_cases h14 : 0 ≤ r6.toInt
            ·
              replace hh := hh.1 h14
              refine w_zge_T (pc1 := 111) rfl rfl (show 0 ≤ r6.toInt from h14) ?_
              refine w_mv (pc1 := 112) (st1 := [.ref 33]) rfl rfl rfl ?_
              refine w_mv (pc1 := 113) (st1 := [.int r4, .ref 33]) rfl rfl rfl ?_
              refine w_mv (pc1 := 115) (st1 := [.int r6, .int r4, .ref 33]) rfl rfl rfl ?_
              refine w_call (M' := sM_152) (vals := [.ref 33, .int r4, .int r6]) (rest := []) (lv' := [(0, .ref 33), (1, .int r4), (2, .int r6)]) rfl rfl rfl rfl rfl rfl rfl rfl rfl rfl ?_
              refine hh A B _ dc ds _ (fun r15 v15 a15 hh => ?_)
              show s_kont _ _ _ _ _ _ _ (.inl none) (mH A B v15 a15) dc ds
              refine w_kv (pc1 := 118) rfl ?_
              refine w_mv (pc1 := 148) (st1 := []) rfl rfl rfl ?_
              refine w_mv (pc1 := 16) (st1 := []) rfl rfl rfl ?_
              refine w_wk (l1 := [(0, .ref 33), (1, .int p1), (2, .int p2)]) rfl ⟨rfl, rfl, rfl, trivial⟩ ?_
              exact hh A B d dc ds P hP
            ·
              replace hh := hh.2 (Int.not_le.mp h14)
              refine w_zge_F (pc1 := 105) rfl (by decide) rfl (show r6.toInt < 0 from (Int.not_le.mp h14)) ?_
              refine w_mv (pc1 := 106) (st1 := [.int r4]) rfl rfl rfl ?_
              refine w_mv (pc1 := 108) (st1 := [.int r6, .int r4]) rfl rfl rfl ?_
              by_cases h16 : r6.toInt ≤ r4.toInt
              ·
                replace hh := hh.1 h16
                refine w_ige_T (pc1 := 121) rfl rfl (show r6.toInt ≤ r4.toInt from h16) ?_
                refine w_mv (pc1 := 123) (st1 := [.int r6]) rfl rfl rfl ?_
                by_cases h17 : 0 ≤ r6.toInt
                ·
                  replace hh := hh.1 h17
                  refine w_zge_T (pc1 := 136) rfl rfl (show 0 ≤ r6.toInt from h17) ?_
                  refine w_mv (pc1 := 137) (st1 := [.ref 33]) rfl rfl rfl ?_
                  refine w_mv (pc1 := 138) (st1 := [.int r4, .ref 33]) rfl rfl rfl ?_
                  refine w_mv (pc1 := 140) (st1 := [.int r6, .int r4, .ref 33]) rfl rfl rfl ?_
                  refine w_call (M' := sM_143) (vals := [.ref 33, .int r4, .int r6]) (rest := []) (lv' := [(0, .ref 33), (1, .int r4), (2, .int r6)]) rfl rfl rfl rfl rfl rfl rfl rfl rfl rfl ?_
                  refine hh A B _ dc ds _ (fun r18 v18 a18 hh => ?_)
                  show s_kont _ _ _ _ _ _ _ (.inl (some (.int r18))) (mH A B v18 a18) dc ds
                  refine w_ki (pc1 := 143) rfl ?_
                  by_cases h19 : r18.toInt = 0
                  ·
                    replace hh := hh.2 h19
                    refine w_zne_F (pc1 := 146) rfl (by decide) rfl (show r18.toInt = 0 from h19) ?_
                    refine w_mv (pc1 := 147) (st1 := [.int 3]) rfl rfl rfl ?_
                    exact sx_wp.stop rfl rfl rfl (hP 3 _ _ hh)
                  ·
                    replace hh := hh.1 h19
                    refine w_zne_T (pc1 := 148) rfl rfl (show r18.toInt ≠ 0 from h19) ?_
                    refine w_mv (pc1 := 16) (st1 := []) rfl rfl rfl ?_
                    refine w_wk (l1 := [(0, .ref 33), (1, .int p1), (2, .int p2)]) rfl ⟨rfl, rfl, rfl, trivial⟩ ?_
                    exact hh A B d dc ds P hP
                ·
                  replace hh := hh.2 (Int.not_le.mp h17)
                  refine w_zge_F (pc1 := 126) rfl (by decide) rfl (show r6.toInt < 0 from (Int.not_le.mp h17)) ?_
                  refine w_mv (pc1 := 127) (st1 := [.ref 33]) rfl rfl rfl ?_
                  refine w_mv (pc1 := 129) (st1 := [.int r6, .ref 33]) rfl rfl rfl ?_
                  refine w_mv (pc1 := 130) (st1 := [.int r4, .int r6, .ref 33]) rfl rfl rfl ?_
                  refine w_call (M' := sM_152) (vals := [.ref 33, .int r6, .int r4]) (rest := []) (lv' := [(0, .ref 33), (1, .int r6), (2, .int r4)]) rfl rfl rfl rfl rfl rfl rfl rfl rfl rfl ?_
                  refine hh A B _ dc ds _ (fun r20 v20 a20 hh => ?_)
                  show s_kont _ _ _ _ _ _ _ (.inl none) (mH A B v20 a20) dc ds
                  refine w_kv (pc1 := 133) rfl ?_
                  refine w_mv (pc1 := 148) (st1 := []) rfl rfl rfl ?_
                  refine w_mv (pc1 := 16) (st1 := []) rfl rfl rfl ?_
                  refine w_wk (l1 := [(0, .ref 33), (1, .int p1), (2, .int p2)]) rfl ⟨rfl, rfl, rfl, trivial⟩ ?_
                  exact hh A B d dc ds P hP
              ·
                replace hh := hh.2 (Int.not_le.mp h16)
                refine w_ige_F (pc1 := 111) rfl (by decide) rfl (show r4.toInt < r6.toInt from (Int.not_le.mp h16)) ?_
                refine w_mv (pc1 := 112) (st1 := [.ref 33]) rfl rfl rfl ?_
                refine w_mv (pc1 := 113) (st1 := [.int r4, .ref 33]) rfl rfl rfl ?_
                refine w_mv (pc1 := 115) (st1 := [.int r6, .int r4, .ref 33]) rfl rfl rfl ?_
                refine w_call (M' := sM_152) (vals := [.ref 33, .int r4, .int r6]) (rest := []) (lv' := [(0, .ref 33), (1, .int r4), (2, .int r6)]) rfl rfl rfl rfl rfl rfl rfl rfl rfl rfl ?_
                refine hh A B _ dc ds _ (fun r21 v21 a21 hh => ?_)
                show s_kont _ _ _ _ _ _ _ (.inl none) (mH A B v21 a21) dc ds
                refine w_kv (pc1 := 118) rfl ?_
                refine w_mv (pc1 := 148) (st1 := []) rfl rfl rfl ?_
                refine w_mv (pc1 := 16) (st1 := []) rfl rfl rfl ?_
                refine w_wk (l1 := [(0, .ref 33), (1, .int p1), (2, .int p2)]) rfl ⟨rfl, rfl, rfl, trivial⟩ ?_
                exact hh A B d dc ds P hP
        ·
          replace hh := hh.2 (Int.not_le.mp h8)
          refine w_zge_F (pc1 := 93) rfl (by decide) rfl (show r4.toInt < 0 from (Int.not_le.mp h8)) ?_
          refine w_mv (pc1 := 16) (st1 := []) rfl rfl rfl ?_
          refine w_wk (l1 := [(0, .ref 33), (1, .int p1), (2, .int p2)]) rfl ⟨rfl, rfl, rfl, trivial⟩ ?_
          exact hh A B d dc ds P hP
      ·
        replace hh := hh.1 h7
        refine w_ine_T (pc1 := 96) rfl rfl (show r4.toInt ≠ r6.toInt from h7) ?_
        refine w_mv (pc1 := 97) (st1 := [.int r4]) rfl rfl rfl ?_
        by_cases h22 : 0 ≤ r4.toInt
        ·
          replace hh := hh.1 h22
          refine w_zge_T (pc1 := 121) rfl rfl (show 0 ≤ r4.toInt from h22) ?_
          refine w_mv (pc1 := 123) (st1 := [.int r6]) rfl rfl rfl ?_
          by_cases h23 : 0 ≤ r6.toInt
          ·
            replace hh := hh.1 h23
            refine w_zge_T (pc1 := 136) rfl rfl (show 0 ≤ r6.toInt from h23) ?_
            refine w_mv (pc1 := 137) (st1 := [.ref 33]) rfl rfl rfl ?_
            refine w_mv (pc1 := 138) (st1 := [.int r4, .ref 33]) rfl rfl rfl ?_
            refine w_mv (pc1 := 140) (st1 := [.int r6, .int r4, .ref 33]) rfl rfl rfl ?_
            refine w_call (M' := sM_143) (vals := [.ref 33, .int r4, .int r6]) (rest := []) (lv' := [(0, .ref 33), (1, .int r4), (2, .int r6)]) rfl rfl rfl rfl rfl rfl rfl rfl rfl rfl ?_
            refine hh A B _ dc ds _ (fun r24 v24 a24 hh => ?_)
            show s_kont _ _ _ _ _ _ _ (.inl (some (.int r24))) (mH A B v24 a24) dc ds
            refine w_ki (pc1 := 143) rfl ?_
            by_cases h25 : r24.toInt = 0
            ·
              replace hh := hh.2 h25
              refine w_zne_F (pc1 := 146) rfl (by decide) rfl (show r24.toInt = 0 from h25) ?_
              refine w_mv (pc1 := 147) (st1 := [.int 3]) rfl rfl rfl ?_
              exact sx_wp.stop rfl rfl rfl (hP 3 _ _ hh)
            ·
              replace hh := hh.1 h25
              refine w_zne_T (pc1 := 148) rfl rfl (show r24.toInt ≠ 0 from h25) ?_
              refine w_mv (pc1 := 16) (st1 := []) rfl rfl rfl ?_
              refine w_wk (l1 := [(0, .ref 33), (1, .int p1), (2, .int p2)]) rfl ⟨rfl, rfl, rfl, trivial⟩ ?_
              exact hh A B d dc ds P hP
          ·
            replace hh := hh.2 (Int.not_le.mp h23)
            refine w_zge_F (pc1 := 126) rfl (by decide) rfl (show r6.toInt < 0 from (Int.not_le.mp h23)) ?_
            refine w_mv (pc1 := 127) (st1 := [.ref 33]) rfl rfl rfl ?_
            refine w_mv (pc1 := 129) (st1 := [.int r6, .ref 33]) rfl rfl rfl ?_
            refine w_mv (pc1 := 130) (st1 := [.int r4, .int r6, .ref 33]) rfl rfl rfl ?_
            refine w_call (M' := sM_152) (vals := [.ref 33, .int r6, .int r4]) (rest := []) (lv' := [(0, .ref 33), (1, .int r6), (2, .int r4)]) rfl rfl rfl rfl rfl rfl rfl rfl rfl rfl ?_
            refine hh A B _ dc ds _ (fun r26 v26 a26 hh => ?_)
            show s_kont _ _ _ _ _ _ _ (.inl none) (mH A B v26 a26) dc ds
            refine w_kv (pc1 := 133) rfl ?_
            refine w_mv (pc1 := 148) (st1 := []) rfl rfl rfl ?_
            refine w_mv (pc1 := 16) (st1 := []) rfl rfl rfl ?_
            refine w_wk (l1 := [(0, .ref 33), (1, .int p1), (2, .int p2)]) rfl ⟨rfl, rfl, rfl, trivial⟩ ?_
            exact hh A B d dc ds P hP
        ·
          replace hh := hh.2 (Int.not_le.mp h22)
          refine w_zge_F (pc1 := 100) rfl (by decide) rfl (show r4.toInt < 0 from (Int.not_le.mp h22)) ?_
          refine w_mv (pc1 := 102) (st1 := [.int r6]) rfl rfl rfl ?_
          by_cases h27 : 0 ≤ r6.toInt
          ·
            replace hh := hh.1 h27
            refine w_zge_T (pc1 := 111) rfl rfl (show 0 ≤ r6.toInt from h27) ?_
            refine w_mv (pc1 := 112) (st1 := [.ref 33]) rfl rfl rfl ?_
            refine w_mv (pc1 := 113) (st1 := [.int r4, .ref 33]) rfl rfl rfl ?_
            refine w_mv (pc1 := 115) (st1 := [.int r6, .int r4, .ref 33]) rfl rfl rfl ?_
            refine w_call (M' := sM_152) (vals := [.ref 33, .int r4, .int r6]) (rest := []) (lv' := [(0, .ref 33), (1, .int r4), (2, .int r6)]) rfl rfl rfl rfl rfl rfl rfl rfl rfl rfl ?_
            refine hh A B _ dc ds _ (fun r28 v28 a28 hh => ?_)
            show s_kont _ _ _ _ _ _ _ (.inl none) (mH A B v28 a28) dc ds
            refine w_kv (pc1 := 118) rfl ?_
            refine w_mv (pc1 := 148) (st1 := []) rfl rfl rfl ?_
            refine w_mv (pc1 := 16) (st1 := []) rfl rfl rfl ?_
            refine w_wk (l1 := [(0, .ref 33), (1, .int p1), (2, .int p2)]) rfl ⟨rfl, rfl, rfl, trivial⟩ ?_
            exact hh A B d dc ds P hP
          ·
            replace hh := hh.2 (Int.not_le.mp h27)
            refine w_zge_F (pc1 := 105) rfl (by decide) rfl (show r6.toInt < 0 from (Int.not_le.mp h27)) ?_
            refine w_mv (pc1 := 106) (st1 := [.int r4]) rfl rfl rfl ?_
            refine w_mv (pc1 := 108) (st1 := [.int r6, .int r4]) rfl rfl rfl ?_
            by_cases h29 : r6.toInt ≤ r4.toInt
            ·
              replace hh := hh.1 h29
              refine w_ige_T (pc1 := 121) rfl rfl (show r6.toInt ≤ r4.toInt from h29) ?_
              refine w_mv (pc1 := 123) (st1 := [.int r6]) rfl rfl rfl ?_
              by_cases h30 : 0 ≤ r6.toInt
              ·
                replace hh := hh.1 h30
                refine w_zge_T (pc1 := 136) rfl rfl (show 0 ≤ r6.toInt from h30) ?_
                refine w_mv (pc1 := 137) (st1 := [.ref 33]) rfl rfl rfl ?_
                refine w_mv (pc1 := 138) (st1 := [.int r4, .ref 33]) rfl rfl rfl ?_
                refine w_mv (pc1 := 140) (st1 := [.int r6, .int r4, .ref 33]) rfl rfl rfl ?_
                refine w_call (M' := sM_143) (vals := [.ref 33, .int r4, .int r6]) (rest := []) (lv' := [(0, .ref 33), (1, .int r4), (2, .int r6)]) rfl rfl rfl rfl rfl rfl rfl rfl rfl rfl ?_
                refine hh A B _ dc ds _ (fun r31 v31 a31 hh => ?_)
                show s_kont _ _ _ _ _ _ _ (.inl (some (.int r31))) (mH A B v31 a31) dc ds
                refine w_ki (pc1 := 143) rfl ?_
                by_cases h32 : r31.toInt = 0
                ·
                  replace hh := hh.2 h32
                  refine w_zne_F (pc1 := 146) rfl (by decide) rfl (show r31.toInt = 0 from h32) ?_
                  refine w_mv (pc1 := 147) (st1 := [.int 3]) rfl rfl rfl ?_
                  exact sx_wp.stop rfl rfl rfl (hP 3 _ _ hh)
                ·
                  replace hh := hh.1 h32
                  refine w_zne_T (pc1 := 148) rfl rfl (show r31.toInt ≠ 0 from h32) ?_
                  refine w_mv (pc1 := 16) (st1 := []) rfl rfl rfl ?_
                  refine w_wk (l1 := [(0, .ref 33), (1, .int p1), (2, .int p2)]) rfl ⟨rfl, rfl, rfl, trivial⟩ ?_
                  exact hh A B d dc ds P hP
              ·
                replace hh := hh.2 (Int.not_le.mp h30)
                refine w_zge_F (pc1 := 126) rfl (by decide) rfl (show r6.toInt < 0 from (Int.not_le.mp h30)) ?_
                refine w_mv (pc1 := 127) (st1 := [.ref 33]) rfl rfl rfl ?_
                refine w_mv (pc1 := 129) (st1 := [.int r6, .ref 33]) rfl rfl rfl ?_
                refine w_mv (pc1 := 130) (st1 := [.int r4, .int r6, .ref 33]) rfl rfl rfl ?_
                refine w_call (M' := sM_152) (vals := [.ref 33, .int r6, .int r4]) (rest := []) (lv' := [(0, .ref 33), (1, .int r6), (2, .int r4)]) rfl rfl rfl rfl rfl rfl rfl rfl rfl rfl ?_
                refine hh A B _ dc ds _ (fun r33 v33 a33 hh => ?_)
                show s_kont _ _ _ _ _ _ _ (.inl none) (mH A B v33 a33) dc ds
                refine w_kv (pc1 := 133) rfl ?_
                refine w_mv (pc1 := 148) (st1 := []) rfl rfl rfl ?_
                refine w_mv (pc1 := 16) (st1 := []) rfl rfl rfl ?_
                refine w_wk (l1 := [(0, .ref 33), (1, .int p1), (2, .int p2)]) rfl ⟨rfl, rfl, rfl, trivial⟩ ?_
                exact hh A B d dc ds P hP
            ·
              replace hh := hh.2 (Int.not_le.mp h29)
              refine w_ige_F (pc1 := 111) rfl (by decide) rfl (show r4.toInt < r6.toInt from (Int.not_le.mp h29)) ?_
              refine w_mv (pc1 := 112) (st1 := [.ref 33]) rfl rfl rfl ?_
              refine w_mv (pc1 := 113) (st1 := [.int r4, .ref 33]) rfl rfl rfl ?_
              refine w_mv (pc1 := 115) (st1 := [.int r6, .int r4, .ref 33]) rfl rfl rfl ?_
              refine w_call (M' := sM_152) (vals := [.ref 33, .int r4, .int r6]) (rest := []) (lv' := [(0, .ref 33), (1, .int r4), (2, .int r6)]) rfl rfl rfl rfl rfl rfl rfl rfl rfl rfl ?_
              refine hh A B _ dc ds _ (fun r34 v34 a34 hh => ?_)
              show s_kont _ _ _ _ _ _ _ (.inl none) (mH A B v34 a34) dc ds
              refine w_kv (pc1 := 118) rfl ?_
              refine w_mv (pc1 := 148) (st1 := []) rfl rfl rfl ?_
              refine w_mv (pc1 := 16) (st1 := []) rfl rfl rfl ?_
              refine w_wk (l1 := [(0, .ref 33), (1, .int p1), (2, .int p2)]) rfl ⟨rfl, rfl, rfl, trivial⟩ ?_
              exact hh A B d dc ds P hP
set_option maxRecDepth 20000 in
set_option maxHeartbeats 4000000 in
theorem r_152_0 {p1 : Int32} {p2 : Int32} {v : Nat → Int32} {a : Nat → Nat → Int32} {K : Int32 → (Nat → Int32) → (Nat → Nat → Int32) → Prop} (hh : 0 ≤ ((-1) - p1).toInt ∧ ((-1) - p1).toInt < 12000 ∧ mT 1 sM_152 11 [(0, .ref 33), (1, .int p1), (2, .int p2), (3, .int 0)] [] v (va_up a 17 (upd (a 17) ((-1) - p1).toNatClampNeg p2)) K) : mT 1 sM_152 0 [(0, .ref 33), (1, .int p1), (2, .int p2)] [] v a K := by
  intro A B d dc ds P hP
  refine w_mv (pc1 := 1) (st1 := [.ref 33]) rfl rfl rfl ?_
  refine w_mv (pc1 := 4) (st1 := [.ref 44]) rfl rfl rfl ?_
  refine w_mv (pc1 := 5) (st1 := [.int (-1), .ref 44]) rfl rfl rfl ?_
  refine w_mv (pc1 := 6) (st1 := [.int p1, .int (-1), .ref 44]) rfl rfl rfl ?_
  refine w_mv (pc1 := 7) (st1 := [.int ((-1) - p1), .ref 44]) rfl rfl rfl ?_
  refine w_mv (pc1 := 8) (st1 := [.int p2, .int ((-1) - p1), .ref 44]) rfl rfl rfl ?_
  obtain ⟨o1a, o1b, hh⟩ := hh
  refine w_ast (x := 44) (t := 0) (n := 12000) (f := (a 17)) (ty := .int) (nw := fun x => x) (pc1 := 9) (hs1 := mH A B v (va_up a 17 (upd (a 17) ((-1) - p1).toNatClampNeg p2))) rfl rfl rfl rfl rfl rfl o1a o1b rfl mst_17 ?_
  refine w_mv (pc1 := 10) (st1 := [.int 0]) rfl rfl rfl ?_
  refine w_mv (pc1 := 11) (lv1 := [(3, .int 0), (0, .ref 33), (1, .int p1), (2, .int p2)]) (st1 := []) rfl rfl rfl ?_
  refine w_wk (l1 := [(0, .ref 33), (1, .int p1), (2, .int p2), (3, .int 0)]) rfl ⟨rfl, rfl, rfl, rfl, trivial⟩ ?_
  exact hh A B d dc ds P hP
set_option maxRecDepth 20000 in
set_option maxHeartbeats 4000000 in
theorem r_152_11 {p1 : Int32} {p2 : Int32} {p3 : Int32} {v : Nat → Int32} {a : Nat → Nat → Int32} {K : Int32 → (Nat → Int32) → (Nat → Nat → Int32) → Prop} (hh : ((p3.toInt < 0 → K 0 v a) ∧ (0 ≤ p3.toInt → mT 1 sM_152 20 [(0, .ref 33), (1, .int p1), (2, .int p2), (3, .int (-1)), (4, .int 0)] [] v a K))) : mT 1 sM_152 11 [(0, .ref 33), (1, .int p1), (2, .int p2), (3, .int p3)] [] v a K := by
  intro A B d dc ds P hP
  refine w_mv (pc1 := 12) (st1 := [.int p3]) rfl rfl rfl ?_
  by_cases h1 : p3.toInt < 0
  ·
    replace hh := hh.1 h1
    refine w_zlt_T (pc1 := 106) rfl rfl (show p3.toInt < 0 from h1) ?_
    exact sx_wp.stop rfl rfl rfl (hP 0 _ _ hh)
  ·
    replace hh := hh.2 (Int.not_lt.mp h1)
    refine w_zlt_F (pc1 := 15) rfl (by decide) rfl (show 0 ≤ p3.toInt from (Int.not_lt.mp h1)) ?_
    refine w_mv (pc1 := 16) (st1 := [.int (-1)]) rfl rfl rfl ?_
    refine w_mv (pc1 := 17) (lv1 := [(3, .int (-1)), (0, .ref 33), (1, .int p1), (2, .int p2)]) (st1 := []) rfl rfl rfl ?_
    refine w_mv (pc1 := 18) (st1 := [.int 0]) rfl rfl rfl ?_
    refine w_mv (pc1 := 20) (lv1 := [(4, .int 0), (3, .int (-1)), (0, .ref 33), (1, .int p1), (2, .int p2)]) (st1 := []) rfl rfl rfl ?_
    refine w_wk (l1 := [(0, .ref 33), (1, .int p1), (2, .int p2), (3, .int (-1)), (4, .int 0)]) rfl ⟨rfl, rfl, rfl, rfl, rfl, trivial⟩ ?_
    exact hh A B d dc ds P hP
set_option maxRecDepth 20000 in
set_option maxHeartbeats 4000000 in
theorem r_152_20 {p1 : Int32} {p2 : Int32} {p3 : Int32} {p4 : Int32} {v : Nat → Int32} {a : Nat → Nat → Int32} {K : Int32 → (Nat → Int32) → (Nat → Nat → Int32) → Prop} (hh : ((61 ≤ p4.toInt → ((0 ≤ p3.toInt → 0 ≤ p3.toInt ∧ p3.toInt < 61 ∧ 0 ≤ p3.toInt ∧ p3.toInt < 61 ∧ 0 ≤ ((a 19) p3.toNatClampNeg).toInt ∧ ((a 19) p3.toNatClampNeg).toInt < 4 ∧ 0 ≤ ((((a 19) p3.toNatClampNeg) * 61) + ((a 28) ((a 19) p3.toNatClampNeg).toNatClampNeg)).toInt ∧ ((((a 19) p3.toNatClampNeg) * 61) + ((a 28) ((a 19) p3.toNatClampNeg).toNatClampNeg)).toInt < 244 ∧ 0 ≤ ((a 19) p3.toNatClampNeg).toInt ∧ ((a 19) p3.toNatClampNeg).toInt < 4 ∧ 0 ≤ ((a 19) p3.toNatClampNeg).toInt ∧ ((a 19) p3.toNatClampNeg).toInt < 4 ∧ mT 1 sM_152 11 [(0, .ref 33), (1, .int p1), (2, .int p2), (3, .int p3)] [] (va_up v 40 (v 40 - 1)) (va_up (va_up (va_up a 25 (upd (a 25) p3.toNatClampNeg 0)) 27 (upd (a 27) ((((a 19) p3.toNatClampNeg) * 61) + ((a 28) ((a 19) p3.toNatClampNeg).toNatClampNeg)).toNatClampNeg p3)) 28 (upd (a 28) ((a 19) p3.toNatClampNeg).toNatClampNeg (((a 28) ((a 19) p3.toNatClampNeg).toNatClampNeg) + 1))) K) ∧ (p3.toInt < 0 → K 0 v a))) ∧ (p4.toInt < 61 → 0 ≤ p4.toInt ∧ p4.toInt < 61 ∧ ((((a 30) p4.toNatClampNeg).toInt = 0 → mT 1 sM_152 20 [(0, .ref 33), (1, .int p1), (2, .int p2), (3, .int p3), (4, .int (p4 + 1))] [] v a K) ∧ (((a 30) p4.toNatClampNeg).toInt ≠ 0 → mT 0 sM_153 0 [(0, .ref 33), (1, .int p4), (2, .int p1)] [] v a (fun r11 v11 a11 => ((r11.toInt = 0 → mT 1 sM_152 20 [(0, .ref 33), (1, .int p1), (2, .int p2), (3, .int p3), (4, .int (p4 + 1))] [] v11 a11 K) ∧ (r11.toInt ≠ 0 → ((p3.toInt < 0 → mT 1 sM_152 20 [(0, .ref 33), (1, .int p1), (2, .int p2), (3, .int p4), (4, .int (p4 + 1))] [] v11 a11 K) ∧ (0 ≤ p3.toInt → 0 ≤ p4.toInt ∧ p4.toInt < 61 ∧ 0 ≤ p3.toInt ∧ p3.toInt < 61 ∧ ((((a11 24) p3.toNatClampNeg).toInt ≤ ((a11 24) p4.toNatClampNeg).toInt → mT 1 sM_152 20 [(0, .ref 33), (1, .int p1), (2, .int p2), (3, .int p3), (4, .int (p4 + 1))] [] v11 a11 K) ∧ (((a11 24) p4.toNatClampNeg).toInt < ((a11 24) p3.toNatClampNeg).toInt → mT 1 sM_152 20 [(0, .ref 33), (1, .int p1), (2, .int p2), (3, .int p4), (4, .int (p4 + 1))] [] v11 a11 K)))))))))))) : mT 1 sM_152 20 [(0, .ref 33), (1, .int p1), (2, .int p2), (3, .int p3), (4, .int p4)] [] v a K := by
  intro A B d dc ds P hP
  refine w_mv (pc1 := 22) (st1 := [.int p4]) rfl rfl rfl ?_
  refine w_mv (pc1 := 24) (st1 := [.int 61, .int p4]) rfl rfl rfl ?_
  by_cases h1 : 61 ≤ p4.toInt
  ·
    replace hh := hh.1 h1
    refine w_ige_T (pc1 := 76) rfl rfl (show 61 ≤ p4.toInt from h1) ?_
    refine w_mv (pc1 := 77) (st1 := [.int p3]) rfl rfl rfl ?_
    by_cases h2 : 0 ≤ p3.toInt
    ·
      replace hh := hh.1 h2
      refine w_zge_T (pc1 := 81) rfl rfl (show 0 ≤ p3.toInt from h2) ?_
      refine w_mv (pc1 := 82) (st1 := [.ref 33]) rfl rfl rfl ?_
      refine w_mv (pc1 := 85) (st1 := [.ref 52]) rfl rfl rfl ?_
      refine w_mv (pc1 := 86) (st1 := [.int p3, .ref 52]) rfl rfl rfl ?_
      refine w_mv (pc1 := 87) (st1 := [.int 0, .int p3, .ref 52]) rfl rfl rfl ?_
      obtain ⟨o3a, o3b, hh⟩ := hh
      refine w_ast (x := 52) (t := 0) (n := 61) (f := (a 25)) (ty := .int) (nw := fun x => x) (pc1 := 88) (hs1 := mH A B v (va_up a 25 (upd (a 25) p3.toNatClampNeg 0))) rfl rfl rfl rfl rfl rfl o3a o3b rfl mst_25 ?_
      refine w_mv (pc1 := 89) (st1 := [.ref 33]) rfl rfl rfl ?_
      refine w_mv (pc1 := 90) (st1 := [.ref 33, .ref 33]) rfl rfl rfl ?_
      refine w_mv (pc1 := 93) (st1 := [.int (v 40), .ref 33]) rfl rfl rfl ?_
      refine w_mv (pc1 := 94) (st1 := [.int 1, .int (v 40), .ref 33]) rfl rfl rfl ?_
      refine w_mv (pc1 := 95) (st1 := [.int (v 40 - 1), .ref 33]) rfl rfl rfl ?_
      refine w_st (pc1 := 98) (st1 := []) (hs1 := mH A B (va_up v 40 (v 40 - 1)) (va_up a 25 (upd (a 25) p3.toNatClampNeg 0))) (dc1 := 0) (ds1 := 0) (dc2 := dc) (ds2 := ds) rfl rfl rfl rfl rfl ?_
      refine w_mv (pc1 := 99) (st1 := [.ref 33]) rfl rfl rfl ?_
      refine w_mv (pc1 := 100) (st1 := [.int p3, .ref 33]) rfl rfl rfl ?_
      refine w_call (M' := sM_132) (vals := [.ref 33, .int p3]) (rest := []) (lv' := [(0, .ref 33), (1, .int p3)]) rfl rfl rfl rfl rfl rfl rfl rfl rfl rfl ?_
      refine w_mv (pc1 := 1) (st1 := [.ref 33]) rfl rfl rfl ?_
      refine w_mv (pc1 := 4) (st1 := [.ref 46]) rfl rfl rfl ?_
      refine w_mv (pc1 := 5) (st1 := [.int p3, .ref 46]) rfl rfl rfl ?_
      obtain ⟨o4a, o4b, hh⟩ := hh
      refine w_ald (x := 46) (t := 0) (A := (61, .inl (a 19))) (v := .int ((a 19) p3.toNatClampNeg)) (pc1 := 6) rfl rfl rfl rfl rfl o4a o4b rfl rfl ?_
      refine w_mv (pc1 := 7) (lv1 := [(2, .int ((a 19) p3.toNatClampNeg)), (0, .ref 33), (1, .int p3)]) (st1 := []) rfl rfl rfl ?_
      refine w_mv (pc1 := 8) (st1 := [.ref 33]) rfl rfl rfl ?_
      refine w_mv (pc1 := 11) (st1 := [.ref 54]) rfl rfl rfl ?_
      refine w_mv (pc1 := 12) (st1 := [.int ((a 19) p3.toNatClampNeg), .ref 54]) rfl rfl rfl ?_
      refine w_mv (pc1 := 14) (st1 := [.int 61, .int ((a 19) p3.toNatClampNeg), .ref 54]) rfl rfl rfl ?_
      refine w_mv (pc1 := 15) (st1 := [.int (((a 19) p3.toNatClampNeg) * 61), .ref 54]) rfl rfl rfl ?_
      refine w_mv (pc1 := 16) (st1 := [.ref 33, .int (((a 19) p3.toNatClampNeg) * 61), .ref 54]) rfl rfl rfl ?_
      refine w_mv (pc1 := 19) (st1 := [.ref 55, .int (((a 19) p3.toNatClampNeg) * 61), .ref 54]) rfl rfl rfl ?_
      refine w_mv (pc1 := 20) (st1 := [.int ((a 19) p3.toNatClampNeg), .ref 55, .int (((a 19) p3.toNatClampNeg) * 61), .ref 54]) rfl rfl rfl ?_
      obtain ⟨o5a, o5b, hh⟩ := hh
      refine w_ald (x := 55) (t := 0) (A := (4, .inl (a 28))) (v := .int ((a 28) ((a 19) p3.toNatClampNeg).toNatClampNeg)) (pc1 := 21) rfl rfl rfl rfl rfl o5a o5b rfl rfl ?_
      refine w_mv (pc1 := 22) (st1 := [.int ((((a 19) p3.toNatClampNeg) * 61) + ((a 28) ((a 19) p3.toNatClampNeg).toNatClampNeg)), .ref 54]) rfl rfl rfl ?_
      refine w_mv (pc1 := 23) (st1 := [.int p3, .int ((((a 19) p3.toNatClampNeg) * 61) + ((a 28) ((a 19) p3.toNatClampNeg).toNatClampNeg)), .ref 54]) rfl rfl rfl ?_
      obtain ⟨o6a, o6b, hh⟩ := hh
      refine w_ast (x := 54) (t := 0) (n := 244) (f := (a 27)) (ty := .int) (nw := fun x => x) (pc1 := 24) (hs1 := mH A B (va_up v 40 (v 40 - 1)) (va_up (va_up a 25 (upd (a 25) p3.toNatClampNeg 0)) 27 (upd (a 27) ((((a 19) p3.toNatClampNeg) * 61) + ((a 28) ((a 19) p3.toNatClampNeg).toNatClampNeg)).toNatClampNeg p3))) rfl rfl rfl rfl rfl rfl o6a o6b rfl mst_27 ?_
      refine w_mv (pc1 := 25) (st1 := [.ref 33]) rfl rfl rfl ?_
      refine w_mv (pc1 := 28) (st1 := [.ref 55]) rfl rfl rfl ?_
      refine w_mv (pc1 := 29) (st1 := [.int ((a 19) p3.toNatClampNeg), .ref 55]) rfl rfl rfl ?_
      refine w_mv (pc1 := 30) (st1 := [.int ((a 19) p3.toNatClampNeg), .ref 55, .int ((a 19) p3.toNatClampNeg), .ref 55]) rfl rfl rfl ?_
      obtain ⟨o7a, o7b, hh⟩ := hh
      refine w_ald (x := 55) (t := 0) (A := (4, .inl (a 28))) (v := .int ((a 28) ((a 19) p3.toNatClampNeg).toNatClampNeg)) (pc1 := 31) rfl rfl rfl rfl rfl o7a o7b rfl rfl ?_
      refine w_mv (pc1 := 32) (st1 := [.int 1, .int ((a 28) ((a 19) p3.toNatClampNeg).toNatClampNeg), .int ((a 19) p3.toNatClampNeg), .ref 55]) rfl rfl rfl ?_
      refine w_mv (pc1 := 33) (st1 := [.int (((a 28) ((a 19) p3.toNatClampNeg).toNatClampNeg) + 1), .int ((a 19) p3.toNatClampNeg), .ref 55]) rfl rfl rfl ?_
      obtain ⟨o8a, o8b, hh⟩ := hh
      refine w_ast (x := 55) (t := 0) (n := 4) (f := (a 28)) (ty := .int) (nw := fun x => x) (pc1 := 34) (hs1 := mH A B (va_up v 40 (v 40 - 1)) (va_up (va_up (va_up a 25 (upd (a 25) p3.toNatClampNeg 0)) 27 (upd (a 27) ((((a 19) p3.toNatClampNeg) * 61) + ((a 28) ((a 19) p3.toNatClampNeg).toNatClampNeg)).toNatClampNeg p3)) 28 (upd (a 28) ((a 19) p3.toNatClampNeg).toNatClampNeg (((a 28) ((a 19) p3.toNatClampNeg).toNatClampNeg) + 1)))) rfl rfl rfl rfl rfl rfl o8a o8b rfl mst_28 ?_
      refine w_vret (pc1 := 103) rfl rfl rfl ?_
      refine w_mv (pc1 := 11) (st1 := []) rfl rfl rfl ?_
      refine w_wk (l1 := [(0, .ref 33), (1, .int p1), (2, .int p2), (3, .int p3)]) rfl ⟨rfl, rfl, rfl, rfl, trivial⟩ ?_
      exact hh A B d dc ds P hP
    ·
      replace hh := hh.2 (Int.not_le.mp h2)
      refine w_zge_F (pc1 := 80) rfl (by decide) rfl (show p3.toInt < 0 from (Int.not_le.mp h2)) ?_
      exact sx_wp.stop rfl rfl rfl (hP 0 _ _ hh)
  ·
    replace hh := hh.2 (Int.not_le.mp h1)
    refine w_ige_F (pc1 := 27) rfl (by decide) rfl (show p4.toInt < 61 from (Int.not_le.mp h1)) ?_
    refine w_mv (pc1 := 28) (st1 := [.ref 33]) rfl rfl rfl ?_
    refine w_mv (pc1 := 31) (st1 := [.ref 57]) rfl rfl rfl ?_
    refine w_mv (pc1 := 33) (st1 := [.int p4, .ref 57]) rfl rfl rfl ?_
    obtain ⟨o9a, o9b, hh⟩ := hh
    refine w_ald (x := 57) (t := 2) (A := (61, .inl (a 30))) (v := .int ((a 30) p4.toNatClampNeg)) (pc1 := 34) rfl rfl rfl rfl rfl o9a o9b rfl rfl ?_
    by_cases h10 : ((a 30) p4.toNatClampNeg).toInt = 0
    ·
      replace hh := hh.1 h10
      refine w_zeq_T (pc1 := 70) rfl rfl (show ((a 30) p4.toNatClampNeg).toInt = 0 from h10) ?_
      refine w_mv (pc1 := 73) (lv1 := [(4, .int (p4 + 1)), (0, .ref 33), (1, .int p1), (2, .int p2), (3, .int p3)]) (st1 := []) rfl rfl rfl ?_
      refine w_mv (pc1 := 20) (st1 := []) rfl rfl rfl ?_
      refine w_wk (l1 := [(0, .ref 33), (1, .int p1), (2, .int p2), (3, .int p3), (4, .int (p4 + 1))]) rfl ⟨rfl, rfl, rfl, rfl, rfl, trivial⟩ ?_
      exact hh A B d dc ds P hP
    ·
      replace hh := hh.2 h10
      refine w_zeq_F (pc1 := 37) rfl (by decide) rfl (show ((a 30) p4.toNatClampNeg).toInt ≠ 0 from h10) ?_
      refine w_mv (pc1 := 38) (st1 := [.ref 33]) rfl rfl rfl ?_
      refine w_mv (pc1 := 40) (st1 := [.int p4, .ref 33]) rfl rfl rfl ?_
      refine w_mv (pc1 := 41) (st1 := [.int p1, .int p4, .ref 33]) rfl rfl rfl ?_
      refine w_call (M' := sM_153) (vals := [.ref 33, .int p4, .int p1]) (rest := []) (lv' := [(0, .ref 33), (1, .int p4), (2, .int p1)]) rfl rfl rfl rfl rfl rfl rfl rfl rfl rfl ?_
      refine hh A B _ dc ds _ (fun r11 v11 a11 hh => ?_)
      show s_kont _ _ _ _ _ _ _ (.inl (some (.int r11))) (mH A B v11 a11) dc ds
      refine w_ki (pc1 := 44) rfl ?_
      by_cases h12 : r11.toInt = 0
      ·
        replace hh := hh.1 h12
        refine w_zeq_T (pc1 := 70) rfl rfl (show r11.toInt = 0 from h12) ?_
        refine w_mv (pc1 := 73) (lv1 := [(4, .int (p4 + 1)), (0, .ref 33), (1, .int p1), (2, .int p2), (3, .int p3)]) (st1 := []) rfl rfl rfl ?_
        refine w_mv (pc1 := 20) (st1 := []) rfl rfl rfl ?_
        refine w_wk (l1 := [(0, .ref 33), (1, .int p1), (2, .int p2), (3, .int p3), (4, .int (p4 + 1))]) rfl ⟨rfl, rfl, rfl, rfl, rfl, trivial⟩ ?_
        exact hh A B d dc ds P hP
      ·
        replace hh := hh.2 h12
        refine w_zeq_F (pc1 := 47) rfl (by decide) rfl (show r11.toInt ≠ 0 from h12) ?_
        refine w_mv (pc1 := 48) (st1 := [.int p3]) rfl rfl rfl ?_
        by_cases h13 : p3.toInt < 0
        ·
          replace hh := hh.1 h13
          refine w_zlt_T (pc1 := 67) rfl rfl (show p3.toInt < 0 from h13) ?_
          refine w_mv (pc1 := 69) (st1 := [.int p4]) rfl rfl rfl ?_
          refine w_mv (pc1 := 70) (lv1 := [(3, .int p4), (0, .ref 33), (1, .int p1), (2, .int p2), (4, .int p4)]) (st1 := []) rfl rfl rfl ?_
          refine w_mv (pc1 := 73) (lv1 := [(4, .int (p4 + 1)), (3, .int p4), (0, .ref 33), (1, .int p1), (2, .int p2)]) (st1 := []) rfl rfl rfl ?_
          refine w_mv (pc1 := 20) (st1 := []) rfl rfl rfl ?_
          refine w_wk (l1 := [(0, .ref 33), (1, .int p1), (2, .int p2), (3, .int p4), (4, .int (p4 + 1))]) rfl ⟨rfl, rfl, rfl, rfl, rfl, trivial⟩ ?_
          exact hh A B d dc ds P hP
        ·
          replace hh := hh.2 (Int.not_lt.mp h13)
          refine w_zlt_F (pc1 := 51) rfl (by decide) rfl (show 0 ≤ p3.toInt from (Int.not_lt.mp h13)) ?_
          refine w_mv (pc1 := 52) (st1 := [.ref 33]) rfl rfl rfl ?_
          refine w_mv (pc1 := 55) (st1 := [.ref 51]) rfl rfl rfl ?_
          refine w_mv (pc1 := 57) (st1 := [.int p4, .ref 51]) rfl rfl rfl ?_
          obtain ⟨o14a, o14b, hh⟩ := hh
          refine w_ald (x := 51) (t := 0) (A := (61, .inl (a11 24))) (v := .int ((a11 24) p4.toNatClampNeg)) (pc1 := 58) rfl rfl rfl rfl rfl o14a o14b rfl rfl ?_
          refine w_mv (pc1 := 59) (st1 := [.ref 33, .int ((a11 24) p4.toNatClampNeg)]) rfl rfl rfl ?_
          refine w_mv (pc1 := 62) (st1 := [.ref 51, .int ((a11 24) p4.toNatClampNeg)]) rfl rfl rfl ?_
          refine w_mv (pc1 := 63) (st1 := [.int p3, .ref 51, .int ((a11 24) p4.toNatClampNeg)]) rfl rfl rfl ?_
          obtain ⟨o15a, o15b, hh⟩ := hh
          refine w_ald (x := 51) (t := 0) (A := (61, .inl (a11 24))) (v := .int ((a11 24) p3.toNatClampNeg)) (pc1 := 64) rfl rfl rfl rfl rfl o15a o15b rfl rfl ?_
          by_cases h16 : ((a11 24) p3.toNatClampNeg).toInt ≤ ((a11 24) p4.toNatClampNeg).toInt
          ·
            replace hh := hh.1 h16
            refine w_ige_T (pc1 := 70) rfl rfl (show ((a11 24) p3.toNatClampNeg).toInt ≤ ((a11 24) p4.toNatClampNeg).toInt from h16) ?_
            refine w_mv (pc1 := 73) (lv1 := [(4, .int (p4 + 1)), (0, .ref 33), (1, .int p1), (2, .int p2), (3, .int p3)]) (st1 := []) rfl rfl rfl ?_
            refine w_mv (pc1 := 20) (st1 := []) rfl rfl rfl ?_
            refine w_wk (l1 := [(0, .ref 33), (1, .int p1), (2, .int p2), (3, .int p3), (4, .int (p4 + 1))]) rfl ⟨rfl, rfl, rfl, rfl, rfl, trivial⟩ ?_
            exact hh A B d dc ds P hP
          ·
            replace hh := hh.2 (Int.not_le.mp h16)
            refine w_ige_F (pc1 := 67) rfl (by decide) rfl (show ((a11 24) p4.toNatClampNeg).toInt < ((a11 24) p3.toNatClampNeg).toInt from (Int.not_le.mp h16)) ?_
            refine w_mv (pc1 := 69) (st1 := [.int p4]) rfl rfl rfl ?_
            refine w_mv (pc1 := 70) (lv1 := [(3, .int p4), (0, .ref 33), (1, .int p1), (2, .int p2), (4, .int p4)]) (st1 := []) rfl rfl rfl ?_
            refine w_mv (pc1 := 73) (lv1 := [(4, .int (p4 + 1)), (3, .int p4), (0, .ref 33), (1, .int p1), (2, .int p2)]) (st1 := []) rfl rfl rfl ?_
            refine w_mv (pc1 := 20) (st1 := []) rfl rfl rfl ?_
            refine w_wk (l1 := [(0, .ref 33), (1, .int p1), (2, .int p2), (3, .int p4), (4, .int (p4 + 1))]) rfl ⟨rfl, rfl, rfl, rfl, rfl, trivial⟩ ?_
            exact hh A B d dc ds P hP
set_option maxRecDepth 20000 in
set_option maxHeartbeats 4000000 in
theorem r_153_0 {p1 : Int32} {p2 : Int32} {v : Nat → Int32} {a : Nat → Nat → Int32} {K : Int32 → (Nat → Int32) → (Nat → Nat → Int32) → Prop} (hh : mT 0 sM_153 2 [(0, .ref 33), (1, .int p1), (2, .int p2), (3, .int 0)] [] v a K) : mT 0 sM_153 0 [(0, .ref 33), (1, .int p1), (2, .int p2)] [] v a K := by
  intro A B d dc ds P hP
  refine w_mv (pc1 := 1) (st1 := [.int 0]) rfl rfl rfl ?_
  refine w_mv (pc1 := 2) (lv1 := [(3, .int 0), (0, .ref 33), (1, .int p1), (2, .int p2)]) (st1 := []) rfl rfl rfl ?_
  refine w_wk (l1 := [(0, .ref 33), (1, .int p1), (2, .int p2), (3, .int 0)]) rfl ⟨rfl, rfl, rfl, rfl, trivial⟩ ?_
  exact hh A B d dc ds P hP
set_option maxRecDepth 20000 in
set_option maxHeartbeats 4000000 in
theorem r_153_2 {p1 : Int32} {p2 : Int32} {p3 : Int32} {v : Nat → Int32} {a : Nat → Nat → Int32} {K : Int32 → (Nat → Int32) → (Nat → Nat → Int32) → Prop} (hh : 0 ≤ p1.toInt ∧ p1.toInt < 61 ∧ ((((a 25) p1.toNatClampNeg).toInt ≤ p3.toInt → K 0 v a) ∧ (p3.toInt < ((a 25) p1.toNatClampNeg).toInt → 0 ≤ ((p1 * 14) + p3).toInt ∧ ((p1 * 14) + p3).toInt < 854 ∧ ((((a 26) ((p1 * 14) + p3).toNatClampNeg).toInt ≠ p2.toInt → mT 0 sM_153 2 [(0, .ref 33), (1, .int p1), (2, .int p2), (3, .int (p3 + 1))] [] v a K) ∧ (((a 26) ((p1 * 14) + p3).toNatClampNeg).toInt = p2.toInt → K 1 v a))))) : mT 0 sM_153 2 [(0, .ref 33), (1, .int p1), (2, .int p2), (3, .int p3)] [] v a K := by
  intro A B d dc ds P hP
  refine w_mv (pc1 := 3) (st1 := [.int p3]) rfl rfl rfl ?_
  refine w_mv (pc1 := 4) (st1 := [.ref 33, .int p3]) rfl rfl rfl ?_
  refine w_mv (pc1 := 7) (st1 := [.ref 52, .int p3]) rfl rfl rfl ?_
  refine w_mv (pc1 := 8) (st1 := [.int p1, .ref 52, .int p3]) rfl rfl rfl ?_
  obtain ⟨o1a, o1b, hh⟩ := hh
  refine w_ald (x := 52) (t := 0) (A := (61, .inl (a 25))) (v := .int ((a 25) p1.toNatClampNeg)) (pc1 := 9) rfl rfl rfl rfl rfl o1a o1b rfl rfl ?_
  by_cases h2 : ((a 25) p1.toNatClampNeg).toInt ≤ p3.toInt
  ·
    replace hh := hh.1 h2
    refine w_ige_T (pc1 := 35) rfl rfl (show ((a 25) p1.toNatClampNeg).toInt ≤ p3.toInt from h2) ?_
    refine w_mv (pc1 := 36) (st1 := [.int 0]) rfl rfl rfl ?_
    exact sx_wp.stop rfl rfl rfl (hP 0 _ _ hh)
  ·
    replace hh := hh.2 (Int.not_le.mp h2)
    refine w_ige_F (pc1 := 12) rfl (by decide) rfl (show p3.toInt < ((a 25) p1.toNatClampNeg).toInt from (Int.not_le.mp h2)) ?_
    refine w_mv (pc1 := 13) (st1 := [.ref 33]) rfl rfl rfl ?_
    refine w_mv (pc1 := 16) (st1 := [.ref 53]) rfl rfl rfl ?_
    refine w_mv (pc1 := 17) (st1 := [.int p1, .ref 53]) rfl rfl rfl ?_
    refine w_mv (pc1 := 19) (st1 := [.int 14, .int p1, .ref 53]) rfl rfl rfl ?_
    refine w_mv (pc1 := 20) (st1 := [.int (p1 * 14), .ref 53]) rfl rfl rfl ?_
    refine w_mv (pc1 := 21) (st1 := [.int p3, .int (p1 * 14), .ref 53]) rfl rfl rfl ?_
    refine w_mv (pc1 := 22) (st1 := [.int ((p1 * 14) + p3), .ref 53]) rfl rfl rfl ?_
    obtain ⟨o3a, o3b, hh⟩ := hh
    refine w_ald (x := 53) (t := 0) (A := (854, .inl (a 26))) (v := .int ((a 26) ((p1 * 14) + p3).toNatClampNeg)) (pc1 := 23) rfl rfl rfl rfl rfl o3a o3b rfl rfl ?_
    refine w_mv (pc1 := 24) (st1 := [.int p2, .int ((a 26) ((p1 * 14) + p3).toNatClampNeg)]) rfl rfl rfl ?_
    by_cases h4 : ((a 26) ((p1 * 14) + p3).toNatClampNeg).toInt = p2.toInt
    ·
      replace hh := hh.2 h4
      refine w_ine_F (pc1 := 27) rfl (by decide) rfl (show ((a 26) ((p1 * 14) + p3).toNatClampNeg).toInt = p2.toInt from h4) ?_
      refine w_mv (pc1 := 28) (st1 := [.int 1]) rfl rfl rfl ?_
      exact sx_wp.stop rfl rfl rfl (hP 1 _ _ hh)
    ·
      replace hh := hh.1 h4
      refine w_ine_T (pc1 := 29) rfl rfl (show ((a 26) ((p1 * 14) + p3).toNatClampNeg).toInt ≠ p2.toInt from h4) ?_
      refine w_mv (pc1 := 32) (lv1 := [(3, .int (p3 + 1)), (0, .ref 33), (1, .int p1), (2, .int p2)]) (st1 := []) rfl rfl rfl ?_
      refine w_mv (pc1 := 2) (st1 := []) rfl rfl rfl ?_
      refine w_wk (l1 := [(0, .ref 33), (1, .int p1), (2, .int p2), (3, .int (p3 + 1))]) rfl ⟨rfl, rfl, rfl, rfl, trivial⟩ ?_
      exact hh A B d dc ds P hP
set_option maxRecDepth 20000 in
set_option maxHeartbeats 4000000 in
theorem r_154_0 {p1 : Int32} {p2 : Int32} {v : Nat → Int32} {a : Nat → Nat → Int32} {K : Int32 → (Nat → Int32) → (Nat → Nat → Int32) → Prop} (hh : ((0 ≤ p1.toInt → p1.toInt ≤ 25 → (((v 42).toInt = 0 → K 0 (va_up v 11 2) a) ∧ ((v 42).toInt ≠ 0 → 0 ≤ p1.toInt ∧ p1.toInt < 26 ∧ ((((a 6) p1.toNatClampNeg).toInt ≠ 2147483647 → 0 ≤ p1.toInt ∧ p1.toInt < 26 ∧ mT 2 sM_155 0 [(0, .ref 33), (1, .int ((a 6) p1.toNatClampNeg))] [] (va_up v 11 0) a (fun _ v6 a6 => ((p2.toInt ≠ (-1) → ((0 ≤ p2.toInt → p2.toInt ≤ (v6 44 - 1).toInt → 0 ≤ p2.toInt ∧ p2.toInt < 80 ∧ K ((a6 35) p2.toNatClampNeg) v6 a6) ∧ ((p2.toInt < 0 ∨ (v6 44 - 1).toInt < p2.toInt) → K 0 (va_up v6 11 2) a6))) ∧ (p2.toInt = (-1) → K (v6 44) v6 a6)))) ∧ (((a 6) p1.toNatClampNeg).toInt = 2147483647 → K 0 (va_up v 11 2) a))))) ∧ ((p1.toInt < 0 ∨ 25 < p1.toInt) → K 0 (va_up v 11 1) a))) : mT 3 sM_154 0 [(0, .ref 33), (1, .int p1), (2, .int p2)] [] v a K := by
  intro A B d dc ds P hP
  refine w_mv (pc1 := 1) (st1 := [.ref 33]) rfl rfl rfl ?_
  refine w_mv (pc1 := 2) (st1 := [.int p1, .ref 33]) rfl rfl rfl ?_
  refine w_mv (pc1 := 3) (st1 := [.int 0, .int p1, .ref 33]) rfl rfl rfl ?_
  refine w_mv (pc1 := 5) (st1 := [.int 25, .int 0, .int p1, .ref 33]) rfl rfl rfl ?_
  refine w_call (M' := sM_111) (vals := [.int p1, .int 0, .int 25]) (rest := [.ref 33]) (lv' := [(0, .int p1), (1, .int 0), (2, .int 25)]) rfl rfl rfl rfl rfl rfl rfl rfl rfl rfl ?_
  refine m_in (fun h1a h1b => ?_) (fun h1c => ?_)
  ·
    replace hh := hh.1 h1a h1b
    refine w_ki (pc1 := 8) rfl ?_
    refine w_call (M' := sM_112) (vals := [.ref 33, .int 1]) (rest := []) (lv' := [(0, .ref 33), (1, .int 1)]) rfl rfl rfl rfl rfl rfl rfl rfl rfl rfl ?_
    refine w_mv (pc1 := 1) (st1 := [.ref 33]) rfl rfl rfl ?_
    refine w_mv (pc1 := 2) (st1 := [.int 1, .ref 33]) rfl rfl rfl ?_
    refine w_mv (pc1 := 5) (st1 := [.ref 33]) rfl rfl rfl ?_
    refine w_mv (pc1 := 6) (st1 := [.int 0, .ref 33]) rfl rfl rfl ?_
    refine w_mv (pc1 := 10) (st1 := [.int 0, .ref 33]) rfl rfl rfl ?_
    refine w_st (pc1 := 13) (st1 := []) (hs1 := mH A B (va_up v 11 0) a) (dc1 := 0) (ds1 := 0) (dc2 := dc) (ds2 := ds) rfl rfl rfl rfl rfl ?_
    refine w_mv (pc1 := 14) (st1 := [.int 1]) rfl rfl rfl ?_
    refine w_mv (pc1 := 21) (st1 := []) rfl rfl rfl ?_
    refine w_mv (pc1 := 22) (st1 := [.int 0]) rfl rfl rfl ?_
    refine w_iret (pc1 := 11) rfl rfl rfl rfl ?_
    refine w_mv (pc1 := 16) (st1 := []) rfl rfl rfl ?_
    refine w_mv (pc1 := 17) (st1 := [.ref 33]) rfl rfl rfl ?_
    refine w_mv (pc1 := 20) (st1 := [.int (v 42)]) rfl rfl rfl ?_
    by_cases h2 : (v 42).toInt = 0
    ·
      replace hh := hh.1 h2
      refine w_zeq_T (pc1 := 34) rfl rfl (show (v 42).toInt = 0 from h2) ?_
      refine w_mv (pc1 := 35) (st1 := [.ref 33]) rfl rfl rfl ?_
      refine w_mv (pc1 := 36) (st1 := [.int 2, .ref 33]) rfl rfl rfl ?_
      refine w_call (M' := sM_113) (vals := [.ref 33, .int 2]) (rest := []) (lv' := [(0, .ref 33), (1, .int 2)]) rfl rfl rfl rfl rfl rfl rfl rfl rfl rfl ?_
      refine w_mv (pc1 := 1) (st1 := [.ref 33]) rfl rfl rfl ?_
      refine w_mv (pc1 := 2) (st1 := [.int 2, .ref 33]) rfl rfl rfl ?_
      refine w_st (pc1 := 5) (st1 := []) (hs1 := mH A B (va_up v 11 2) a) (dc1 := 0) (ds1 := 0) (dc2 := dc) (ds2 := ds) rfl rfl rfl rfl rfl ?_
      refine w_mv (pc1 := 6) (st1 := [.int 0]) rfl rfl rfl ?_
      refine w_iret (pc1 := 39) rfl rfl rfl rfl ?_
      exact sx_wp.stop rfl rfl rfl (hP 0 _ _ hh)
    ·
      replace hh := hh.2 h2
      refine w_zeq_F (pc1 := 23) rfl (by decide) rfl (show (v 42).toInt ≠ 0 from h2) ?_
      refine w_mv (pc1 := 24) (st1 := [.ref 33]) rfl rfl rfl ?_
      refine w_mv (pc1 := 27) (st1 := [.ref 40]) rfl rfl rfl ?_
      refine w_mv (pc1 := 28) (st1 := [.int p1, .ref 40]) rfl rfl rfl ?_
      obtain ⟨o3a, o3b, hh⟩ := hh
      refine w_ald (x := 40) (t := 0) (A := (26, .inl (a 6))) (v := .int ((a 6) p1.toNatClampNeg)) (pc1 := 29) rfl rfl rfl rfl rfl o3a o3b rfl rfl ?_
      refine w_mv (pc1 := 31) (st1 := [.int 2147483647, .int ((a 6) p1.toNatClampNeg)]) rfl rfl rfl ?_
      by_cases h4 : ((a 6) p1.toNatClampNeg).toInt = 2147483647
      ·
        replace hh := hh.2 h4
        refine w_ine_F (pc1 := 34) rfl (by decide) rfl (show ((a 6) p1.toNatClampNeg).toInt = 2147483647 from h4) ?_
        refine w_mv (pc1 := 35) (st1 := [.ref 33]) rfl rfl rfl ?_
        refine w_mv (pc1 := 36) (st1 := [.int 2, .ref 33]) rfl rfl rfl ?_
        refine w_call (M' := sM_113) (vals := [.ref 33, .int 2]) (rest := []) (lv' := [(0, .ref 33), (1, .int 2)]) rfl rfl rfl rfl rfl rfl rfl rfl rfl rfl ?_
        refine w_mv (pc1 := 1) (st1 := [.ref 33]) rfl rfl rfl ?_
        refine w_mv (pc1 := 2) (st1 := [.int 2, .ref 33]) rfl rfl rfl ?_
        refine w_st (pc1 := 5) (st1 := []) (hs1 := mH A B (va_up v 11 2) a) (dc1 := 0) (ds1 := 0) (dc2 := dc) (ds2 := ds) rfl rfl rfl rfl rfl ?_
        refine w_mv (pc1 := 6) (st1 := [.int 0]) rfl rfl rfl ?_
        refine w_iret (pc1 := 39) rfl rfl rfl rfl ?_
        exact sx_wp.stop rfl rfl rfl (hP 0 _ _ hh)
      ·
        replace hh := hh.1 h4
        refine w_ine_T (pc1 := 40) rfl rfl (show ((a 6) p1.toNatClampNeg).toInt ≠ 2147483647 from h4) ?_
        refine w_mv (pc1 := 41) (st1 := [.ref 33]) rfl rfl rfl ?_
        refine w_mv (pc1 := 42) (st1 := [.ref 33, .ref 33]) rfl rfl rfl ?_
        refine w_mv (pc1 := 45) (st1 := [.ref 40, .ref 33]) rfl rfl rfl ?_
        refine w_mv (pc1 := 46) (st1 := [.int p1, .ref 40, .ref 33]) rfl rfl rfl ?_
        obtain ⟨o5a, o5b, hh⟩ := hh
        refine w_ald (x := 40) (t := 0) (A := (26, .inl (a 6))) (v := .int ((a 6) p1.toNatClampNeg)) (pc1 := 47) rfl rfl rfl rfl rfl o5a o5b rfl rfl ?_
        refine w_call (M' := sM_155) (vals := [.ref 33, .int ((a 6) p1.toNatClampNeg)]) (rest := []) (lv' := [(0, .ref 33), (1, .int ((a 6) p1.toNatClampNeg))]) rfl rfl rfl rfl rfl rfl rfl rfl rfl rfl ?_
        refine hh A B _ dc ds _ (fun r6 v6 a6 hh => ?_)
        show s_kont _ _ _ _ _ _ _ (.inl none) (mH A B v6 a6) dc ds
        refine w_kv (pc1 := 50) rfl ?_
        refine w_mv (pc1 := 51) (st1 := [.int p2]) rfl rfl rfl ?_
        refine w_mv (pc1 := 52) (st1 := [.int (-1), .int p2]) rfl rfl rfl ?_
        by_cases h7 : p2.toInt = (-1)
        ·
          replace hh := hh.2 h7
          refine w_ine_F (pc1 := 55) rfl (by decide) rfl (show p2.toInt = (-1) from h7) ?_
          refine w_mv (pc1 := 56) (st1 := [.ref 33]) rfl rfl rfl ?_
          refine w_mv (pc1 := 59) (st1 := [.int (v6 44)]) rfl rfl rfl ?_
          exact sx_wp.stop rfl rfl rfl (hP (v6 44) _ _ hh)
        ·
          replace hh := hh.1 h7
          refine w_ine_T (pc1 := 60) rfl rfl (show p2.toInt ≠ (-1) from h7) ?_
          refine w_mv (pc1 := 61) (st1 := [.int p2]) rfl rfl rfl ?_
          refine w_mv (pc1 := 62) (st1 := [.int 0, .int p2]) rfl rfl rfl ?_
          refine w_mv (pc1 := 63) (st1 := [.ref 33, .int 0, .int p2]) rfl rfl rfl ?_
          refine w_mv (pc1 := 66) (st1 := [.int (v6 44), .int 0, .int p2]) rfl rfl rfl ?_
          refine w_mv (pc1 := 67) (st1 := [.int 1, .int (v6 44), .int 0, .int p2]) rfl rfl rfl ?_
          refine w_mv (pc1 := 68) (st1 := [.int (v6 44 - 1), .int 0, .int p2]) rfl rfl rfl ?_
          refine w_call (M' := sM_111) (vals := [.int p2, .int 0, .int (v6 44 - 1)]) (rest := []) (lv' := [(0, .int p2), (1, .int 0), (2, .int (v6 44 - 1))]) rfl rfl rfl rfl rfl rfl rfl rfl rfl rfl ?_
          refine m_in (fun h8a h8b => ?_) (fun h8c => ?_)
          ·
            replace hh := hh.1 h8a h8b
            refine w_ki (pc1 := 71) rfl ?_
            refine w_mv (pc1 := 74) (st1 := []) rfl rfl rfl ?_
            refine w_mv (pc1 := 75) (st1 := [.ref 33]) rfl rfl rfl ?_
            refine w_mv (pc1 := 78) (st1 := [.ref 62]) rfl rfl rfl ?_
            refine w_mv (pc1 := 79) (st1 := [.int p2, .ref 62]) rfl rfl rfl ?_
            obtain ⟨o9a, o9b, hh⟩ := hh
            refine w_ald (x := 62) (t := 0) (A := (80, .inl (a6 35))) (v := .int ((a6 35) p2.toNatClampNeg)) (pc1 := 80) rfl rfl rfl rfl rfl o9a o9b rfl rfl ?_
            refine w_mv (pc1 := 88) (st1 := [.int ((a6 35) p2.toNatClampNeg)]) rfl rfl rfl ?_
            exact sx_wp.stop rfl rfl rfl (hP ((a6 35) p2.toNatClampNeg) _ _ hh)
          ·
            replace hh := hh.2 h8c
            refine w_ki (pc1 := 71) rfl ?_
            refine w_mv (pc1 := 83) (st1 := []) rfl rfl rfl ?_
            refine w_mv (pc1 := 84) (st1 := [.ref 33]) rfl rfl rfl ?_
            refine w_mv (pc1 := 85) (st1 := [.int 2, .ref 33]) rfl rfl rfl ?_
            refine w_call (M' := sM_113) (vals := [.ref 33, .int 2]) (rest := []) (lv' := [(0, .ref 33), (1, .int 2)]) rfl rfl rfl rfl rfl rfl rfl rfl rfl rfl ?_
            refine w_mv (pc1 := 1) (st1 := [.ref 33]) rfl rfl rfl ?_
            refine w_mv (pc1 := 2) (st1 := [.int 2, .ref 33]) rfl rfl rfl ?_
            refine w_st (pc1 := 5) (st1 := []) (hs1 := mH A B (va_up v6 11 2) a6) (dc1 := 0) (ds1 := 0) (dc2 := dc) (ds2 := ds) rfl rfl rfl rfl rfl ?_
            refine w_mv (pc1 := 6) (st1 := [.int 0]) rfl rfl rfl ?_
            refine w_iret (pc1 := 88) rfl rfl rfl rfl ?_
            exact sx_wp.stop rfl rfl rfl (hP 0 _ _ hh)
  ·
    replace hh := hh.2 h1c
    refine w_ki (pc1 := 8) rfl ?_
    refine w_call (M' := sM_112) (vals := [.ref 33, .int 0]) (rest := []) (lv' := [(0, .ref 33), (1, .int 0)]) rfl rfl rfl rfl rfl rfl rfl rfl rfl rfl ?_
    refine w_mv (pc1 := 1) (st1 := [.ref 33]) rfl rfl rfl ?_
    refine w_mv (pc1 := 2) (st1 := [.int 0, .ref 33]) rfl rfl rfl ?_
    refine w_mv (pc1 := 9) (st1 := [.ref 33]) rfl rfl rfl ?_
    refine w_mv (pc1 := 10) (st1 := [.int 1, .ref 33]) rfl rfl rfl ?_
    refine w_st (pc1 := 13) (st1 := []) (hs1 := mH A B (va_up v 11 1) a) (dc1 := 0) (ds1 := 0) (dc2 := dc) (ds2 := ds) rfl rfl rfl rfl rfl ?_
    refine w_mv (pc1 := 14) (st1 := [.int 0]) rfl rfl rfl ?_
    refine w_mv (pc1 := 17) (st1 := []) rfl rfl rfl ?_
    refine w_mv (pc1 := 18) (st1 := [.int 1]) rfl rfl rfl ?_
    refine w_mv (pc1 := 22) (st1 := [.int 1]) rfl rfl rfl ?_
    refine w_iret (pc1 := 11) rfl rfl rfl rfl ?_
    refine w_mv (pc1 := 14) (st1 := []) rfl rfl rfl ?_
    refine w_mv (pc1 := 15) (st1 := [.int 0]) rfl rfl rfl ?_
    exact sx_wp.stop rfl rfl rfl (hP 0 _ _ hh)
set_option maxRecDepth 20000 in
set_option maxHeartbeats 4000000 in
theorem r_155_0 {p1 : Int32} {v : Nat → Int32} {a : Nat → Nat → Int32} {K : Int32 → (Nat → Int32) → (Nat → Nat → Int32) → Prop} (hh : mT 2 sM_155 14 [(0, .ref 33), (1, .int p1), (2, .int 1)] [] (va_up v 44 0) (va_up a 36 (upd (a 36) 0 p1)) K) : mT 2 sM_155 0 [(0, .ref 33), (1, .int p1)] [] v a K := by
  intro A B d dc ds P hP
  refine w_mv (pc1 := 1) (st1 := [.int 1]) rfl rfl rfl ?_
  refine w_mv (pc1 := 2) (lv1 := [(2, .int 1), (0, .ref 33), (1, .int p1)]) (st1 := []) rfl rfl rfl ?_
  refine w_mv (pc1 := 3) (st1 := [.ref 33]) rfl rfl rfl ?_
  refine w_mv (pc1 := 4) (st1 := [.int 0, .ref 33]) rfl rfl rfl ?_
  refine w_st (pc1 := 7) (st1 := []) (hs1 := mH A B (va_up v 44 0) a) (dc1 := 0) (ds1 := 0) (dc2 := dc) (ds2 := ds) rfl rfl rfl rfl rfl ?_
  refine w_mv (pc1 := 8) (st1 := [.ref 33]) rfl rfl rfl ?_
  refine w_mv (pc1 := 11) (st1 := [.ref 63]) rfl rfl rfl ?_
  refine w_mv (pc1 := 12) (st1 := [.int 0, .ref 63]) rfl rfl rfl ?_
  refine w_mv (pc1 := 13) (st1 := [.int p1, .int 0, .ref 63]) rfl rfl rfl ?_
  refine w_ast (x := 63) (t := 0) (n := 800) (f := (a 36)) (ty := .int) (nw := fun x => x) (pc1 := 14) (hs1 := mH A B (va_up v 44 0) (va_up a 36 (upd (a 36) 0 p1))) rfl rfl rfl rfl rfl rfl (by decide) (by decide) rfl mst_36 ?_
  refine w_wk (l1 := [(0, .ref 33), (1, .int p1), (2, .int 1)]) rfl ⟨rfl, rfl, rfl, trivial⟩ ?_
  exact hh A B d dc ds P hP
set_option maxRecDepth 20000 in
set_option maxHeartbeats 4000000 in
theorem r_155_14 {p1 : Int32} {p2 : Int32} {v : Nat → Int32} {a : Nat → Nat → Int32} {K : Int32 → (Nat → Int32) → (Nat → Nat → Int32) → Prop} (hh : ((p2.toInt ≤ 0 → K 0 v a) ∧ (0 < p2.toInt → ((80 ≤ (v 44).toInt → K 0 v a) ∧ ((v 44).toInt < 80 → 0 ≤ (p2 + (-1)).toInt ∧ (p2 + (-1)).toInt < 800 ∧ ((((a 36) (p2 + (-1)).toNatClampNeg).toInt < 100000 → mT 0 sM_136 0 [(0, .ref 33), (1, .int ((a 36) (p2 + (-1)).toNatClampNeg))] [] v a (fun r5 v5 a5 => ((r5.toInt < 0 → ((0 ≤ r5.toInt → 0 ≤ r5.toInt ∧ r5.toInt < 26000 ∧ mT 0 sM_156 0 [(0, .ref 33), (1, .int ((a5 14) r5.toNatClampNeg))] [] v5 a5 (fun _ v9 a9 => mT 2 sM_155 104 [(0, .ref 33), (1, .int p1), (2, .int (p2 + (-1))), (3, .int r5)] [] v9 a9 K)) ∧ (r5.toInt < 0 → mT 0 sM_156 0 [(0, .ref 33), (1, .int 95)] [] v5 a5 (fun _ v10 a10 => mT 2 sM_155 104 [(0, .ref 33), (1, .int p1), (2, .int (p2 + (-1))), (3, .int r5)] [] v10 a10 K)))) ∧ (0 ≤ r5.toInt → 0 ≤ r5.toInt ∧ r5.toInt < 26000 ∧ ((((a5 14) r5.toNatClampNeg).toInt ≠ 0 → ((0 ≤ r5.toInt → 0 ≤ r5.toInt ∧ r5.toInt < 26000 ∧ mT 0 sM_156 0 [(0, .ref 33), (1, .int ((a5 14) r5.toNatClampNeg))] [] v5 a5 (fun _ v17 a17 => mT 2 sM_155 104 [(0, .ref 33), (1, .int p1), (2, .int (p2 + (-1))), (3, .int r5)] [] v17 a17 K)) ∧ (r5.toInt < 0 → mT 0 sM_156 0 [(0, .ref 33), (1, .int 95)] [] v5 a5 (fun _ v18 a18 => mT 2 sM_155 104 [(0, .ref 33), (1, .int p1), (2, .int (p2 + (-1))), (3, .int r5)] [] v18 a18 K)))) ∧ (((a5 14) r5.toNatClampNeg).toInt = 0 → 0 ≤ (r5 * 3).toInt ∧ (r5 * 3).toInt < 78000 ∧ mT 1 sM_157 0 [(0, .ref 33), (1, .int ((a5 16) (r5 * 3).toNatClampNeg))] [] v5 a5 (fun _ v14 a14 => mT 2 sM_155 104 [(0, .ref 33), (1, .int p1), (2, .int (p2 + (-1))), (3, .int r5)] [] v14 a14 K))))))) ∧ (100000 ≤ ((a 36) (p2 + (-1)).toNatClampNeg).toInt → mT 0 sM_156 0 [(0, .ref 33), (1, .int (((a 36) (p2 + (-1)).toNatClampNeg) - 100000))] [] v a (fun _ v19 a19 => mT 2 sM_155 14 [(0, .ref 33), (1, .int p1), (2, .int (p2 + (-1)))] [] v19 a19 K)))))))) : mT 2 sM_155 14 [(0, .ref 33), (1, .int p1), (2, .int p2)] [] v a K := by
  intro A B d dc ds P hP
  refine w_mv (pc1 := 15) (st1 := [.int p2]) rfl rfl rfl ?_
  by_cases h1 : p2.toInt ≤ 0
  ·
    replace hh := hh.1 h1
    refine w_zle_T (pc1 := 202) rfl rfl (show p2.toInt ≤ 0 from h1) ?_
    exact sx_wp.stop rfl rfl rfl (hP 0 _ _ hh)
  ·
    replace hh := hh.2 (Int.not_le.mp h1)
    refine w_zle_F (pc1 := 18) rfl (by decide) rfl (show 0 < p2.toInt from (Int.not_le.mp h1)) ?_
    refine w_mv (pc1 := 19) (st1 := [.ref 33]) rfl rfl rfl ?_
    refine w_mv (pc1 := 22) (st1 := [.int (v 44)]) rfl rfl rfl ?_
    refine w_mv (pc1 := 24) (st1 := [.int 80, .int (v 44)]) rfl rfl rfl ?_
    by_cases h2 : 80 ≤ (v 44).toInt
    ·
      replace hh := hh.1 h2
      refine w_ige_T (pc1 := 202) rfl rfl (show 80 ≤ (v 44).toInt from h2) ?_
      exact sx_wp.stop rfl rfl rfl (hP 0 _ _ hh)
    ·
      replace hh := hh.2 (Int.not_le.mp h2)
      refine w_ige_F (pc1 := 27) rfl (by decide) rfl (show (v 44).toInt < 80 from (Int.not_le.mp h2)) ?_
      refine w_mv (pc1 := 30) (lv1 := [(2, .int (p2 + (-1))), (0, .ref 33), (1, .int p1)]) (st1 := []) rfl rfl rfl ?_
      refine w_mv (pc1 := 31) (st1 := [.ref 33]) rfl rfl rfl ?_
      refine w_mv (pc1 := 34) (st1 := [.ref 63]) rfl rfl rfl ?_
      refine w_mv (pc1 := 35) (st1 := [.int (p2 + (-1)), .ref 63]) rfl rfl rfl ?_
      obtain ⟨o3a, o3b, hh⟩ := hh
      refine w_ald (x := 63) (t := 0) (A := (800, .inl (a 36))) (v := .int ((a 36) (p2 + (-1)).toNatClampNeg)) (pc1 := 36) rfl rfl rfl rfl rfl o3a o3b rfl rfl ?_
      refine w_mv (pc1 := 37) (lv1 := [(3, .int ((a 36) (p2 + (-1)).toNatClampNeg)), (2, .int (p2 + (-1))), (0, .ref 33), (1, .int p1)]) (st1 := []) rfl rfl rfl ?_
      refine w_mv (pc1 := 38) (st1 := [.int ((a 36) (p2 + (-1)).toNatClampNeg)]) rfl rfl rfl ?_
      refine w_mv (pc1 := 41) (st1 := [.int 100000, .int ((a 36) (p2 + (-1)).toNatClampNeg)]) rfl rfl rfl ?_
      by_cases h4 : ((a 36) (p2 + (-1)).toNatClampNeg).toInt < 100000
      ·
        replace hh := hh.1 h4
        refine w_ilt_T (pc1 := 56) rfl rfl (show ((a 36) (p2 + (-1)).toNatClampNeg).toInt < 100000 from h4) ?_
        refine w_mv (pc1 := 57) (st1 := [.ref 33]) rfl rfl rfl ?_
        refine w_mv (pc1 := 58) (st1 := [.int ((a 36) (p2 + (-1)).toNatClampNeg), .ref 33]) rfl rfl rfl ?_
        refine w_call (M' := sM_136) (vals := [.ref 33, .int ((a 36) (p2 + (-1)).toNatClampNeg)]) (rest := []) (lv' := [(0, .ref 33), (1, .int ((a 36) (p2 + (-1)).toNatClampNeg))]) rfl rfl rfl rfl rfl rfl rfl rfl rfl rfl ?_
        refine hh A B _ dc ds _ (fun r5 v5 a5 hh => ?_)
        show s_kont _ _ _ _ _ _ _ (.inl (some (.int r5))) (mH A B v5 a5) dc ds
        refine w_ki (pc1 := 61) rfl ?_
        refine w_mv (pc1 := 62) (lv1 := [(3, .int r5), (2, .int (p2 + (-1))), (0, .ref 33), (1, .int p1)]) (st1 := []) rfl rfl rfl ?_
        refine w_mv (pc1 := 63) (st1 := [.ref 33]) rfl rfl rfl ?_
        refine w_mv (pc1 := 64) (st1 := [.int r5, .ref 33]) rfl rfl rfl ?_
        refine w_call (M' := sM_144) (vals := [.ref 33, .int r5]) (rest := []) (lv' := [(0, .ref 33), (1, .int r5)]) rfl rfl rfl rfl rfl rfl rfl rfl rfl rfl ?_
        refine w_mv (pc1 := 1) (st1 := [.int r5]) rfl rfl rfl ?_
        by_cases h6 : r5.toInt < 0
        ·
          replace hh := hh.1 h6
          refine w_zlt_T (pc1 := 17) rfl rfl (show r5.toInt < 0 from h6) ?_
          refine w_mv (pc1 := 18) (st1 := [.int 0]) rfl rfl rfl ?_
          refine w_iret (pc1 := 67) rfl rfl rfl rfl ?_
          refine w_mv (pc1 := 85) (st1 := []) rfl rfl rfl ?_
          refine w_mv (pc1 := 86) (st1 := [.ref 33]) rfl rfl rfl ?_
          refine w_mv (pc1 := 87) (st1 := [.int r5, .ref 33]) rfl rfl rfl ?_
          by_cases h7 : 0 ≤ r5.toInt
          ·
            replace hh := hh.1 h7
            refine w_zge_T (pc1 := 95) rfl rfl (show 0 ≤ r5.toInt from h7) ?_
            refine w_mv (pc1 := 96) (st1 := [.ref 33, .ref 33]) rfl rfl rfl ?_
            refine w_mv (pc1 := 99) (st1 := [.ref 41, .ref 33]) rfl rfl rfl ?_
            refine w_mv (pc1 := 100) (st1 := [.int r5, .ref 41, .ref 33]) rfl rfl rfl ?_
            obtain ⟨o8a, o8b, hh⟩ := hh
            refine w_ald (x := 41) (t := 0) (A := (26000, .inl (a5 14))) (v := .int ((a5 14) r5.toNatClampNeg)) (pc1 := 101) rfl rfl rfl rfl rfl o8a o8b rfl rfl ?_
            refine w_call (M' := sM_156) (vals := [.ref 33, .int ((a5 14) r5.toNatClampNeg)]) (rest := []) (lv' := [(0, .ref 33), (1, .int ((a5 14) r5.toNatClampNeg))]) rfl rfl rfl rfl rfl rfl rfl rfl rfl rfl ?_
            refine hh A B _ dc ds _ (fun r9 v9 a9 hh => ?_)
            show s_kont _ _ _ _ _ _ _ (.inl none) (mH A B v9 a9) dc ds
            refine w_kv (pc1 := 104) rfl ?_
            refine w_wk (l1 := [(0, .ref 33), (1, .int p1), (2, .int (p2 + (-1))), (3, .int r5)]) rfl ⟨rfl, rfl, rfl, rfl, trivial⟩ ?_
            exact hh A B d dc ds P hP
          ·
            replace hh := hh.2 (Int.not_le.mp h7)
            refine w_zge_F (pc1 := 90) rfl (by decide) rfl (show r5.toInt < 0 from (Int.not_le.mp h7)) ?_
            refine w_mv (pc1 := 92) (st1 := [.int 95, .ref 33]) rfl rfl rfl ?_
            refine w_mv (pc1 := 101) (st1 := [.int 95, .ref 33]) rfl rfl rfl ?_
            refine w_call (M' := sM_156) (vals := [.ref 33, .int 95]) (rest := []) (lv' := [(0, .ref 33), (1, .int 95)]) rfl rfl rfl rfl rfl rfl rfl rfl rfl rfl ?_
            refine hh A B _ dc ds _ (fun r10 v10 a10 hh => ?_)
            show s_kont _ _ _ _ _ _ _ (.inl none) (mH A B v10 a10) dc ds
            refine w_kv (pc1 := 104) rfl ?_
            refine w_wk (l1 := [(0, .ref 33), (1, .int p1), (2, .int (p2 + (-1))), (3, .int r5)]) rfl ⟨rfl, rfl, rfl, rfl, trivial⟩ ?_
            exact hh A B d dc ds P hP
        ·
          replace hh := hh.2 (Int.not_lt.mp h6)
          refine w_zlt_F (pc1 := 4) rfl (by decide) rfl (show 0 ≤ r5.toInt from (Int.not_lt.mp h6)) ?_
          refine w_mv (pc1 := 5) (st1 := [.ref 33]) rfl rfl rfl ?_
          refine w_mv (pc1 := 8) (st1 := [.ref 41]) rfl rfl rfl ?_
          refine w_mv (pc1 := 9) (st1 := [.int r5, .ref 41]) rfl rfl rfl ?_
          obtain ⟨o11a, o11b, hh⟩ := hh
          refine w_ald (x := 41) (t := 0) (A := (26000, .inl (a5 14))) (v := .int ((a5 14) r5.toNatClampNeg)) (pc1 := 10) rfl rfl rfl rfl rfl o11a o11b rfl rfl ?_
          by_cases h12 : ((a5 14) r5.toNatClampNeg).toInt = 0
          ·
            replace hh := hh.2 h12
            refine w_zne_F (pc1 := 13) rfl (by decide) rfl (show ((a5 14) r5.toNatClampNeg).toInt = 0 from h12) ?_
            refine w_mv (pc1 := 14) (st1 := [.int 1]) rfl rfl rfl ?_
            refine w_mv (pc1 := 18) (st1 := [.int 1]) rfl rfl rfl ?_
            refine w_iret (pc1 := 67) rfl rfl rfl rfl ?_
            refine w_mv (pc1 := 70) (st1 := []) rfl rfl rfl ?_
            refine w_mv (pc1 := 71) (st1 := [.ref 33]) rfl rfl rfl ?_
            refine w_mv (pc1 := 72) (st1 := [.ref 33, .ref 33]) rfl rfl rfl ?_
            refine w_mv (pc1 := 75) (st1 := [.ref 43, .ref 33]) rfl rfl rfl ?_
            refine w_mv (pc1 := 76) (st1 := [.int r5, .ref 43, .ref 33]) rfl rfl rfl ?_
            refine w_mv (pc1 := 77) (st1 := [.int 3, .int r5, .ref 43, .ref 33]) rfl rfl rfl ?_
            refine w_mv (pc1 := 78) (st1 := [.int (r5 * 3), .ref 43, .ref 33]) rfl rfl rfl ?_
            obtain ⟨o13a, o13b, hh⟩ := hh
            refine w_ald (x := 43) (t := 0) (A := (78000, .inl (a5 16))) (v := .int ((a5 16) (r5 * 3).toNatClampNeg)) (pc1 := 79) rfl rfl rfl rfl rfl o13a o13b rfl rfl ?_
            refine w_call (M' := sM_157) (vals := [.ref 33, .int ((a5 16) (r5 * 3).toNatClampNeg)]) (rest := []) (lv' := [(0, .ref 33), (1, .int ((a5 16) (r5 * 3).toNatClampNeg))]) rfl rfl rfl rfl rfl rfl rfl rfl rfl rfl ?_
            refine hh A B _ dc ds _ (fun r14 v14 a14 hh => ?_)
            show s_kont _ _ _ _ _ _ _ (.inl none) (mH A B v14 a14) dc ds
            refine w_kv (pc1 := 82) rfl ?_
            refine w_mv (pc1 := 104) (st1 := []) rfl rfl rfl ?_
            refine w_wk (l1 := [(0, .ref 33), (1, .int p1), (2, .int (p2 + (-1))), (3, .int r5)]) rfl ⟨rfl, rfl, rfl, rfl, trivial⟩ ?_
            exact hh A B d dc ds P hP
          ·
            replace hh := hh.1 h12
            refine w_zne_T (pc1 := 17) rfl rfl (show ((a5 14) r5.toNatClampNeg).toInt ≠ 0 from h12) ?_
            refine w_mv (pc1 := 18) (st1 := [.int 0]) rfl rfl rfl ?_
            refine w_iret (pc1 := 67) rfl rfl rfl rfl ?_
            refine w_mv (pc1 := 85) (st1 := []) rfl rfl rfl ?_
            refine w_mv (pc1 := 86) (st1 := [.ref 33]) rfl rfl rfl ?_
            refine w_mv (pc1 := 87) (st1 := [.int r5, .ref 33]) rfl rfl rfl ?_
            by_cases h15 : 0 ≤ r5.toInt
            ·
              replace hh := hh.1 h15
              refine w_zge_T (pc1 := 95) rfl rfl (show 0 ≤ r5.toInt from h15) ?_
              refine w_mv (pc1 := 96) (st1 := [.ref 33, .ref 33]) rfl rfl rfl ?_
              refine w_mv (pc1 := 99) (st1 := [.ref 41, .ref 33]) rfl rfl rfl ?_
              refine w_mv (pc1 := 100) (st1 := [.int r5, .ref 41, .ref 33]) rfl rfl rfl ?_
              obtain ⟨o16a, o16b, hh⟩ := hh
              refine w_ald (x := 41) (t := 0) (A := (26000, .inl (a5 14))) (v := .int ((a5 14) r5.toNatClampNeg)) (pc1 := 101) rfl rfl rfl rfl rfl o16a o16b rfl rfl ?_
              refine w_call (M' := sM_156) (vals := [.ref 33, .int ((a5 14) r5.toNatClampNeg)]) (rest := []) (lv' := [(0, .ref 33), (1, .int ((a5 14) r5.toNatClampNeg))]) rfl rfl rfl rfl rfl rfl rfl rfl rfl rfl ?_
              refine hh A B _ dc ds _ (fun r17 v17 a17 hh => ?_)
              show s_kont _ _ _ _ _ _ _ (.inl none) (mH A B v17 a17) dc ds
              refine w_kv (pc1 := 104) rfl ?_
              refine w_wk (l1 := [(0, .ref 33), (1, .int p1), (2, .int (p2 + (-1))), (3, .int r5)]) rfl ⟨rfl, rfl, rfl, rfl, trivial⟩ ?_
              exact hh A B d dc ds P hP
            ·
              replace hh := hh.2 (Int.not_le.mp h15)
              refine w_zge_F (pc1 := 90) rfl (by decide) rfl (show r5.toInt < 0 from (Int.not_le.mp h15)) ?_
              refine w_mv (pc1 := 92) (st1 := [.int 95, .ref 33]) rfl rfl rfl ?_
              refine w_mv (pc1 := 101) (st1 := [.int 95, .ref 33]) rfl rfl rfl ?_
              refine w_call (M' := sM_156) (vals := [.ref 33, .int 95]) (rest := []) (lv' := [(0, .ref 33), (1, .int 95)]) rfl rfl rfl rfl rfl rfl rfl rfl rfl rfl ?_
              refine hh A B _ dc ds _ (fun r18 v18 a18 hh => ?_)
              show s_kont _ _ _ _ _ _ _ (.inl none) (mH A B v18 a18) dc ds
              refine w_kv (pc1 := 104) rfl ?_
              refine w_wk (l1 := [(0, .ref 33), (1, .int p1), (2, .int (p2 + (-1))), (3, .int r5)]) rfl ⟨rfl, rfl, rfl, rfl, trivial⟩ ?_
              exact hh A B d dc ds P hP
      ·
        replace hh := hh.2 (Int.not_lt.mp h4)
        refine w_ilt_F (pc1 := 44) rfl (by decide) rfl (show 100000 ≤ ((a 36) (p2 + (-1)).toNatClampNeg).toInt from (Int.not_lt.mp h4)) ?_
        refine w_mv (pc1 := 45) (st1 := [.ref 33]) rfl rfl rfl ?_
        refine w_mv (pc1 := 46) (st1 := [.int ((a 36) (p2 + (-1)).toNatClampNeg), .ref 33]) rfl rfl rfl ?_
        refine w_mv (pc1 := 49) (st1 := [.int 100000, .int ((a 36) (p2 + (-1)).toNatClampNeg), .ref 33]) rfl rfl rfl ?_
        refine w_mv (pc1 := 50) (st1 := [.int (((a 36) (p2 + (-1)).toNatClampNeg) - 100000), .ref 33]) rfl rfl rfl ?_
        refine w_call (M' := sM_156) (vals := [.ref 33, .int (((a 36) (p2 + (-1)).toNatClampNeg) - 100000)]) (rest := []) (lv' := [(0, .ref 33), (1, .int (((a 36) (p2 + (-1)).toNatClampNeg) - 100000))]) rfl rfl rfl rfl rfl rfl rfl rfl rfl rfl ?_
        refine hh A B _ dc ds _ (fun r19 v19 a19 hh => ?_)
        show s_kont _ _ _ _ _ _ _ (.inl none) (mH A B v19 a19) dc ds
        refine w_kv (pc1 := 53) rfl ?_
        refine w_mv (pc1 := 14) (st1 := []) rfl rfl rfl ?_
        refine w_wk (l1 := [(0, .ref 33), (1, .int p1), (2, .int (p2 + (-1)))]) rfl ⟨rfl, rfl, rfl, trivial⟩ ?_
        exact hh A B d dc ds P hP
set_option maxRecDepth 20000 in
set_option maxHeartbeats 4000000 in
theorem r_155_104 {p1 : Int32} {p2 : Int32} {p3 : Int32} {v : Nat → Int32} {a : Nat → Nat → Int32} {K : Int32 → (Nat → Int32) → (Nat → Nat → Int32) → Prop} (hh : ((p3.toInt < 0 → mT 2 sM_155 14 [(0, .ref 33), (1, .int p1), (2, .int p2)] [] v a K) ∧ (0 ≤ p3.toInt → 0 ≤ p3.toInt ∧ p3.toInt < 26000 ∧ ((((a 15) p3.toNatClampNeg).toInt ≠ 0 → mT 0 sM_156 0 [(0, .ref 33), (1, .int 40)] [] v a (fun _ v4 a4 => 0 ≤ p2.toInt ∧ p2.toInt < 800 ∧ 0 ≤ p3.toInt ∧ p3.toInt < 26000 ∧ mT 2 sM_155 148 [(0, .ref 33), (1, .int p1), (2, .int (p2 + 1)), (3, .int p3), (4, .int (((a4 15) p3.toNatClampNeg) - 1))] [] v4 (va_up a4 36 (upd (a4 36) p2.toNatClampNeg 100041)) K)) ∧ (((a 15) p3.toNatClampNeg).toInt = 0 → mT 2 sM_155 14 [(0, .ref 33), (1, .int p1), (2, .int p2)] [] v a K))))) : mT 2 sM_155 104 [(0, .ref 33), (1, .int p1), (2, .int p2), (3, .int p3)] [] v a K := by
  intro A B d dc ds P hP
  refine w_mv (pc1 := 105) (st1 := [.int p3]) rfl rfl rfl ?_
  by_cases h1 : p3.toInt < 0
  ·
    replace hh := hh.1 h1
    refine w_zlt_T (pc1 := 14) rfl rfl (show p3.toInt < 0 from h1) ?_
    refine w_wk (l1 := [(0, .ref 33), (1, .int p1), (2, .int p2)]) rfl ⟨rfl, rfl, rfl, trivial⟩ ?_
    exact hh A B d dc ds P hP
  ·
    replace hh := hh.2 (Int.not_lt.mp h1)
    refine w_zlt_F (pc1 := 108) rfl (by decide) rfl (show 0 ≤ p3.toInt from (Int.not_lt.mp h1)) ?_
    refine w_mv (pc1 := 109) (st1 := [.ref 33]) rfl rfl rfl ?_
    refine w_mv (pc1 := 112) (st1 := [.ref 42]) rfl rfl rfl ?_
    refine w_mv (pc1 := 113) (st1 := [.int p3, .ref 42]) rfl rfl rfl ?_
    obtain ⟨o2a, o2b, hh⟩ := hh
    refine w_ald (x := 42) (t := 0) (A := (26000, .inl (a 15))) (v := .int ((a 15) p3.toNatClampNeg)) (pc1 := 114) rfl rfl rfl rfl rfl o2a o2b rfl rfl ?_
    by_cases h3 : ((a 15) p3.toNatClampNeg).toInt = 0
    ·
      replace hh := hh.2 h3
      refine w_zne_F (pc1 := 117) rfl (by decide) rfl (show ((a 15) p3.toNatClampNeg).toInt = 0 from h3) ?_
      refine w_mv (pc1 := 14) (st1 := []) rfl rfl rfl ?_
      refine w_wk (l1 := [(0, .ref 33), (1, .int p1), (2, .int p2)]) rfl ⟨rfl, rfl, rfl, trivial⟩ ?_
      exact hh A B d dc ds P hP
    ·
      replace hh := hh.1 h3
      refine w_zne_T (pc1 := 120) rfl rfl (show ((a 15) p3.toNatClampNeg).toInt ≠ 0 from h3) ?_
      refine w_mv (pc1 := 121) (st1 := [.ref 33]) rfl rfl rfl ?_
      refine w_mv (pc1 := 123) (st1 := [.int 40, .ref 33]) rfl rfl rfl ?_
      refine w_call (M' := sM_156) (vals := [.ref 33, .int 40]) (rest := []) (lv' := [(0, .ref 33), (1, .int 40)]) rfl rfl rfl rfl rfl rfl rfl rfl rfl rfl ?_
      refine hh A B _ dc ds _ (fun r4 v4 a4 hh => ?_)
      show s_kont _ _ _ _ _ _ _ (.inl none) (mH A B v4 a4) dc ds
      refine w_kv (pc1 := 126) rfl ?_
      refine w_mv (pc1 := 127) (st1 := [.ref 33]) rfl rfl rfl ?_
      refine w_mv (pc1 := 130) (st1 := [.ref 63]) rfl rfl rfl ?_
      refine w_mv (pc1 := 131) (st1 := [.int p2, .ref 63]) rfl rfl rfl ?_
      refine w_mv (pc1 := 134) (st1 := [.int 100041, .int p2, .ref 63]) rfl rfl rfl ?_
      obtain ⟨o5a, o5b, hh⟩ := hh
      refine w_ast (x := 63) (t := 0) (n := 800) (f := (a4 36)) (ty := .int) (nw := fun x => x) (pc1 := 135) (hs1 := mH A B v4 (va_up a4 36 (upd (a4 36) p2.toNatClampNeg 100041))) rfl rfl rfl rfl rfl rfl o5a o5b rfl mst_36 ?_
      refine w_mv (pc1 := 138) (lv1 := [(2, .int (p2 + 1)), (0, .ref 33), (1, .int p1), (3, .int p3)]) (st1 := []) rfl rfl rfl ?_
      refine w_mv (pc1 := 139) (st1 := [.ref 33]) rfl rfl rfl ?_
      refine w_mv (pc1 := 142) (st1 := [.ref 42]) rfl rfl rfl ?_
      refine w_mv (pc1 := 143) (st1 := [.int p3, .ref 42]) rfl rfl rfl ?_
      obtain ⟨o6a, o6b, hh⟩ := hh
      refine w_ald (x := 42) (t := 0) (A := (26000, .inl (a4 15))) (v := .int ((a4 15) p3.toNatClampNeg)) (pc1 := 144) rfl rfl rfl rfl rfl o6a o6b rfl rfl ?_
      refine w_mv (pc1 := 145) (st1 := [.int 1, .int ((a4 15) p3.toNatClampNeg)]) rfl rfl rfl ?_
      refine w_mv (pc1 := 146) (st1 := [.int (((a4 15) p3.toNatClampNeg) - 1)]) rfl rfl rfl ?_
      refine w_mv (pc1 := 148) (lv1 := [(4, .int (((a4 15) p3.toNatClampNeg) - 1)), (2, .int (p2 + 1)), (0, .ref 33), (1, .int p1), (3, .int p3)]) (st1 := []) rfl rfl rfl ?_
      refine w_wk (l1 := [(0, .ref 33), (1, .int p1), (2, .int (p2 + 1)), (3, .int p3), (4, .int (((a4 15) p3.toNatClampNeg) - 1))]) rfl ⟨rfl, rfl, rfl, rfl, rfl, trivial⟩ ?_
      exact hh A B d dc ds P hP
set_option maxRecDepth 20000 in
set_option maxHeartbeats 4000000 in
theorem r_155_148 {p1 : Int32} {p2 : Int32} {p3 : Int32} {p4 : Int32} {v : Nat → Int32} {a : Nat → Nat → Int32} {K : Int32 → (Nat → Int32) → (Nat → Nat → Int32) → Prop} (hh : ((p4.toInt < 0 → mT 2 sM_155 14 [(0, .ref 33), (1, .int p1), (2, .int p2)] [] v a K) ∧ (0 ≤ p4.toInt → 0 ≤ ((p3 * 3) + p4).toInt ∧ ((p3 * 3) + p4).toInt < 78000 ∧ 0 ≤ p2.toInt ∧ p2.toInt < 800 ∧ ((p4.toInt ≠ 0 → 0 ≤ (p2 + 1).toInt ∧ (p2 + 1).toInt < 800 ∧ mT 2 sM_155 148 [(0, .ref 33), (1, .int p1), (2, .int (p2 + 1 + 1)), (3, .int p3), (4, .int (p4 + (-1)))] [] v (va_up (va_up a 36 (upd (a 36) p2.toNatClampNeg ((a 16) ((p3 * 3) + p4).toNatClampNeg))) 36 (upd (upd (a 36) p2.toNatClampNeg ((a 16) ((p3 * 3) + p4).toNatClampNeg)) (p2 + 1).toNatClampNeg 100044)) K) ∧ (p4.toInt = 0 → mT 2 sM_155 148 [(0, .ref 33), (1, .int p1), (2, .int (p2 + 1)), (3, .int p3), (4, .int (p4 + (-1)))] [] v (va_up a 36 (upd (a 36) p2.toNatClampNeg ((a 16) ((p3 * 3) + p4).toNatClampNeg))) K))))) : mT 2 sM_155 148 [(0, .ref 33), (1, .int p1), (2, .int p2), (3, .int p3), (4, .int p4)] [] v a K := by
  intro A B d dc ds P hP
  refine w_mv (pc1 := 150) (st1 := [.int p4]) rfl rfl rfl ?_
  by_cases h1 : p4.toInt < 0
  ·
    replace hh := hh.1 h1
    refine w_zlt_T (pc1 := 199) rfl rfl (show p4.toInt < 0 from h1) ?_
    refine w_mv (pc1 := 14) (st1 := []) rfl rfl rfl ?_
    refine w_wk (l1 := [(0, .ref 33), (1, .int p1), (2, .int p2)]) rfl ⟨rfl, rfl, rfl, trivial⟩ ?_
    exact hh A B d dc ds P hP
  ·
    replace hh := hh.2 (Int.not_lt.mp h1)
    refine w_zlt_F (pc1 := 153) rfl (by decide) rfl (show 0 ≤ p4.toInt from (Int.not_lt.mp h1)) ?_
    refine w_mv (pc1 := 154) (st1 := [.ref 33]) rfl rfl rfl ?_
    refine w_mv (pc1 := 157) (st1 := [.ref 63]) rfl rfl rfl ?_
    refine w_mv (pc1 := 158) (st1 := [.int p2, .ref 63]) rfl rfl rfl ?_
    refine w_mv (pc1 := 159) (st1 := [.ref 33, .int p2, .ref 63]) rfl rfl rfl ?_
    refine w_mv (pc1 := 162) (st1 := [.ref 43, .int p2, .ref 63]) rfl rfl rfl ?_
    refine w_mv (pc1 := 163) (st1 := [.int p3, .ref 43, .int p2, .ref 63]) rfl rfl rfl ?_
    refine w_mv (pc1 := 164) (st1 := [.int 3, .int p3, .ref 43, .int p2, .ref 63]) rfl rfl rfl ?_
    refine w_mv (pc1 := 165) (st1 := [.int (p3 * 3), .ref 43, .int p2, .ref 63]) rfl rfl rfl ?_
    refine w_mv (pc1 := 167) (st1 := [.int p4, .int (p3 * 3), .ref 43, .int p2, .ref 63]) rfl rfl rfl ?_
    refine w_mv (pc1 := 168) (st1 := [.int ((p3 * 3) + p4), .ref 43, .int p2, .ref 63]) rfl rfl rfl ?_
    obtain ⟨o2a, o2b, hh⟩ := hh
    refine w_ald (x := 43) (t := 0) (A := (78000, .inl (a 16))) (v := .int ((a 16) ((p3 * 3) + p4).toNatClampNeg)) (pc1 := 169) rfl rfl rfl rfl rfl o2a o2b rfl rfl ?_
    obtain ⟨o3a, o3b, hh⟩ := hh
    refine w_ast (x := 63) (t := 0) (n := 800) (f := (a 36)) (ty := .int) (nw := fun x => x) (pc1 := 170) (hs1 := mH A B v (va_up a 36 (upd (a 36) p2.toNatClampNeg ((a 16) ((p3 * 3) + p4).toNatClampNeg)))) rfl rfl rfl rfl rfl rfl o3a o3b rfl mst_36 ?_
    refine w_mv (pc1 := 173) (lv1 := [(2, .int (p2 + 1)), (0, .ref 33), (1, .int p1), (3, .int p3), (4, .int p4)]) (st1 := []) rfl rfl rfl ?_
    refine w_mv (pc1 := 175) (st1 := [.int p4]) rfl rfl rfl ?_
    by_cases h4 : p4.toInt = 0
    ·
      replace hh := hh.2 h4
      refine w_zne_F (pc1 := 178) rfl (by decide) rfl (show p4.toInt = 0 from h4) ?_
      refine w_mv (pc1 := 193) (st1 := []) rfl rfl rfl ?_
      refine w_mv (pc1 := 196) (lv1 := [(4, .int (p4 + (-1))), (2, .int (p2 + 1)), (0, .ref 33), (1, .int p1), (3, .int p3)]) (st1 := []) rfl rfl rfl ?_
      refine w_mv (pc1 := 148) (st1 := []) rfl rfl rfl ?_
      refine w_wk (l1 := [(0, .ref 33), (1, .int p1), (2, .int (p2 + 1)), (3, .int p3), (4, .int (p4 + (-1)))]) rfl ⟨rfl, rfl, rfl, rfl, rfl, trivial⟩ ?_
      exact hh A B d dc ds P hP
    ·
      replace hh := hh.1 h4
      refine w_zne_T (pc1 := 181) rfl rfl (show p4.toInt ≠ 0 from h4) ?_
      refine w_mv (pc1 := 182) (st1 := [.ref 33]) rfl rfl rfl ?_
      refine w_mv (pc1 := 185) (st1 := [.ref 63]) rfl rfl rfl ?_
      refine w_mv (pc1 := 186) (st1 := [.int (p2 + 1), .ref 63]) rfl rfl rfl ?_
      refine w_mv (pc1 := 189) (st1 := [.int 100044, .int (p2 + 1), .ref 63]) rfl rfl rfl ?_
      obtain ⟨o5a, o5b, hh⟩ := hh
      refine w_ast (x := 63) (t := 0) (n := 800) (f := (upd (a 36) p2.toNatClampNeg ((a 16) ((p3 * 3) + p4).toNatClampNeg))) (ty := .int) (nw := fun x => x) (pc1 := 190) (hs1 := mH A B v (va_up (va_up a 36 (upd (a 36) p2.toNatClampNeg ((a 16) ((p3 * 3) + p4).toNatClampNeg))) 36 (upd (upd (a 36) p2.toNatClampNeg ((a 16) ((p3 * 3) + p4).toNatClampNeg)) (p2 + 1).toNatClampNeg 100044))) rfl rfl rfl rfl rfl rfl o5a o5b rfl mst_36 ?_
      refine w_mv (pc1 := 193) (lv1 := [(2, .int (p2 + 1 + 1)), (0, .ref 33), (1, .int p1), (3, .int p3), (4, .int p4)]) (st1 := []) rfl rfl rfl ?_
      refine w_mv (pc1 := 196) (lv1 := [(4, .int (p4 + (-1))), (2, .int (p2 + 1 + 1)), (0, .ref 33), (1, .int p1), (3, .int p3)]) (st1 := []) rfl rfl rfl ?_
      refine w_mv (pc1 := 148) (st1 := []) rfl rfl rfl ?_
      refine w_wk (l1 := [(0, .ref 33), (1, .int p1), (2, .int (p2 + 1 + 1)), (3, .int p3), (4, .int (p4 + (-1)))]) rfl ⟨rfl, rfl, rfl, rfl, rfl, trivial⟩ ?_
      exact hh A B d dc ds P hP
set_option maxRecDepth 20000 in
set_option maxHeartbeats 4000000 in
theorem r_156_0 {p1 : Int32} {v : Nat → Int32} {a : Nat → Nat → Int32} {K : Int32 → (Nat → Int32) → (Nat → Nat → Int32) → Prop} (hh : (((v 44).toInt ≠ 80 → 0 ≤ (v 44).toInt ∧ (v 44).toInt < 80 ∧ K 0 (va_up v 44 (v 44 + 1)) (va_up a 35 (upd (a 35) (v 44).toNatClampNeg p1))) ∧ ((v 44).toInt = 80 → K 0 v a))) : mT 0 sM_156 0 [(0, .ref 33), (1, .int p1)] [] v a K := by
  intro A B d dc ds P hP
  refine w_mv (pc1 := 1) (st1 := [.ref 33]) rfl rfl rfl ?_
  refine w_mv (pc1 := 4) (st1 := [.int (v 44)]) rfl rfl rfl ?_
  refine w_mv (pc1 := 6) (st1 := [.int 80, .int (v 44)]) rfl rfl rfl ?_
  by_cases h1 : (v 44).toInt = 80
  ·
    replace hh := hh.2 h1
    refine w_ine_F (pc1 := 9) rfl (by decide) rfl (show (v 44).toInt = 80 from h1) ?_
    exact sx_wp.stop rfl rfl rfl (hP 0 _ _ hh)
  ·
    replace hh := hh.1 h1
    refine w_ine_T (pc1 := 10) rfl rfl (show (v 44).toInt ≠ 80 from h1) ?_
    refine w_mv (pc1 := 11) (st1 := [.ref 33]) rfl rfl rfl ?_
    refine w_mv (pc1 := 14) (st1 := [.ref 62]) rfl rfl rfl ?_
    refine w_mv (pc1 := 15) (st1 := [.ref 33, .ref 62]) rfl rfl rfl ?_
    refine w_mv (pc1 := 18) (st1 := [.int (v 44), .ref 62]) rfl rfl rfl ?_
    refine w_mv (pc1 := 19) (st1 := [.int p1, .int (v 44), .ref 62]) rfl rfl rfl ?_
    obtain ⟨o2a, o2b, hh⟩ := hh
    refine w_ast (x := 62) (t := 0) (n := 80) (f := (a 35)) (ty := .int) (nw := fun x => x) (pc1 := 20) (hs1 := mH A B v (va_up a 35 (upd (a 35) (v 44).toNatClampNeg p1))) rfl rfl rfl rfl rfl rfl o2a o2b rfl mst_35 ?_
    refine w_mv (pc1 := 21) (st1 := [.ref 33]) rfl rfl rfl ?_
    refine w_mv (pc1 := 22) (st1 := [.ref 33, .ref 33]) rfl rfl rfl ?_
    refine w_mv (pc1 := 25) (st1 := [.int (v 44), .ref 33]) rfl rfl rfl ?_
    refine w_mv (pc1 := 26) (st1 := [.int 1, .int (v 44), .ref 33]) rfl rfl rfl ?_
    refine w_mv (pc1 := 27) (st1 := [.int (v 44 + 1), .ref 33]) rfl rfl rfl ?_
    refine w_st (pc1 := 30) (st1 := []) (hs1 := mH A B (va_up v 44 (v 44 + 1)) (va_up a 35 (upd (a 35) (v 44).toNatClampNeg p1))) (dc1 := 0) (ds1 := 0) (dc2 := dc) (ds2 := ds) rfl rfl rfl rfl rfl ?_
    exact sx_wp.stop rfl rfl rfl (hP 0 _ _ hh)
set_option maxRecDepth 20000 in
set_option maxHeartbeats 4000000 in
theorem r_157_0 {p1 : Int32} {v : Nat → Int32} {a : Nat → Nat → Int32} {K : Int32 → (Nat → Int32) → (Nat → Nat → Int32) → Prop} (hh : ((0 ≤ p1.toInt → ((0 ≤ p1.toInt → mT 1 sM_157 26 [(0, .ref 33), (1, .int p1), (2, .long (Int32.toInt64 p1)), (4, .long 1)] [] v a K) ∧ (p1.toInt < 0 → mT 1 sM_157 26 [(0, .ref 33), (1, .int p1), (2, .long (-(Int32.toInt64 p1))), (4, .long 1)] [] v a K))) ∧ (p1.toInt < 0 → mT 0 sM_156 0 [(0, .ref 33), (1, .int 45)] [] v a (fun _ v3 a3 => ((0 ≤ p1.toInt → mT 1 sM_157 26 [(0, .ref 33), (1, .int p1), (2, .long (Int32.toInt64 p1)), (4, .long 1)] [] v3 a3 K) ∧ (p1.toInt < 0 → mT 1 sM_157 26 [(0, .ref 33), (1, .int p1), (2, .long (-(Int32.toInt64 p1))), (4, .long 1)] [] v3 a3 K)))))) : mT 1 sM_157 0 [(0, .ref 33), (1, .int p1)] [] v a K := by
  intro A B d dc ds P hP
  refine w_mv (pc1 := 1) (st1 := [.int p1]) rfl rfl rfl ?_
  by_cases h1 : 0 ≤ p1.toInt
  ·
    replace hh := hh.1 h1
    refine w_zge_T (pc1 := 10) rfl rfl (show 0 ≤ p1.toInt from h1) ?_
    refine w_mv (pc1 := 11) (st1 := [.int p1]) rfl rfl rfl ?_
    by_cases h2 : 0 ≤ p1.toInt
    ·
      replace hh := hh.1 h2
      refine w_zge_T (pc1 := 20) rfl rfl (show 0 ≤ p1.toInt from h2) ?_
      refine w_mv (pc1 := 21) (st1 := [.int p1]) rfl rfl rfl ?_
      refine w_mv (pc1 := 22) (st1 := [.long (Int32.toInt64 p1)]) rfl rfl rfl ?_
      refine w_mv (pc1 := 23) (lv1 := [(2, .long (Int32.toInt64 p1)), (0, .ref 33), (1, .int p1)]) (st1 := []) rfl rfl rfl ?_
      refine w_mv (pc1 := 24) (st1 := [.long 1]) rfl rfl rfl ?_
      refine w_mv (pc1 := 26) (lv1 := [(4, .long 1), (2, .long (Int32.toInt64 p1)), (0, .ref 33), (1, .int p1)]) (st1 := []) rfl rfl rfl ?_
      refine w_wk (l1 := [(0, .ref 33), (1, .int p1), (2, .long (Int32.toInt64 p1)), (4, .long 1)]) rfl ⟨rfl, rfl, rfl, rfl, trivial⟩ ?_
      exact hh A B d dc ds P hP
    ·
      replace hh := hh.2 (Int.not_le.mp h2)
      refine w_zge_F (pc1 := 14) rfl (by decide) rfl (show p1.toInt < 0 from (Int.not_le.mp h2)) ?_
      refine w_mv (pc1 := 15) (st1 := [.int p1]) rfl rfl rfl ?_
      refine w_mv (pc1 := 16) (st1 := [.long (Int32.toInt64 p1)]) rfl rfl rfl ?_
      refine w_mv (pc1 := 17) (st1 := [.long (-(Int32.toInt64 p1))]) rfl rfl rfl ?_
      refine w_mv (pc1 := 22) (st1 := [.long (-(Int32.toInt64 p1))]) rfl rfl rfl ?_
      refine w_mv (pc1 := 23) (lv1 := [(2, .long (-(Int32.toInt64 p1))), (0, .ref 33), (1, .int p1)]) (st1 := []) rfl rfl rfl ?_
      refine w_mv (pc1 := 24) (st1 := [.long 1]) rfl rfl rfl ?_
      refine w_mv (pc1 := 26) (lv1 := [(4, .long 1), (2, .long (-(Int32.toInt64 p1))), (0, .ref 33), (1, .int p1)]) (st1 := []) rfl rfl rfl ?_
      refine w_wk (l1 := [(0, .ref 33), (1, .int p1), (2, .long (-(Int32.toInt64 p1))), (4, .long 1)]) rfl ⟨rfl, rfl, rfl, rfl, trivial⟩ ?_
      exact hh A B d dc ds P hP
  ·
    replace hh := hh.2 (Int.not_le.mp h1)
    refine w_zge_F (pc1 := 4) rfl (by decide) rfl (show p1.toInt < 0 from (Int.not_le.mp h1)) ?_
    refine w_mv (pc1 := 5) (st1 := [.ref 33]) rfl rfl rfl ?_
    refine w_mv (pc1 := 7) (st1 := [.int 45, .ref 33]) rfl rfl rfl ?_
    refine w_call (M' := sM_156) (vals := [.ref 33, .int 45]) (rest := []) (lv' := [(0, .ref 33), (1, .int 45)]) rfl rfl rfl rfl rfl rfl rfl rfl rfl rfl ?_
    refine hh A B _ dc ds _ (fun r3 v3 a3 hh => ?_)
    show s_kont _ _ _ _ _ _ _ (.inl none) (mH A B v3 a3) dc ds
    refine w_kv (pc1 := 10) rfl ?_
    refine w_mv (pc1 := 11) (st1 := [.int p1]) rfl rfl rfl ?_
    by_cases h4 : 0 ≤ p1.toInt
    ·
      replace hh := hh.1 h4
      refine w_zge_T (pc1 := 20) rfl rfl (show 0 ≤ p1.toInt from h4) ?_
      refine w_mv (pc1 := 21) (st1 := [.int p1]) rfl rfl rfl ?_
      refine w_mv (pc1 := 22) (st1 := [.long (Int32.toInt64 p1)]) rfl rfl rfl ?_
      refine w_mv (pc1 := 23) (lv1 := [(2, .long (Int32.toInt64 p1)), (0, .ref 33), (1, .int p1)]) (st1 := []) rfl rfl rfl ?_
      refine w_mv (pc1 := 24) (st1 := [.long 1]) rfl rfl rfl ?_
      refine w_mv (pc1 := 26) (lv1 := [(4, .long 1), (2, .long (Int32.toInt64 p1)), (0, .ref 33), (1, .int p1)]) (st1 := []) rfl rfl rfl ?_
      refine w_wk (l1 := [(0, .ref 33), (1, .int p1), (2, .long (Int32.toInt64 p1)), (4, .long 1)]) rfl ⟨rfl, rfl, rfl, rfl, trivial⟩ ?_
      exact hh A B d dc ds P hP
    ·
      replace hh := hh.2 (Int.not_le.mp h4)
      refine w_zge_F (pc1 := 14) rfl (by decide) rfl (show p1.toInt < 0 from (Int.not_le.mp h4)) ?_
      refine w_mv (pc1 := 15) (st1 := [.int p1]) rfl rfl rfl ?_
      refine w_mv (pc1 := 16) (st1 := [.long (Int32.toInt64 p1)]) rfl rfl rfl ?_
      refine w_mv (pc1 := 17) (st1 := [.long (-(Int32.toInt64 p1))]) rfl rfl rfl ?_
      refine w_mv (pc1 := 22) (st1 := [.long (-(Int32.toInt64 p1))]) rfl rfl rfl ?_
      refine w_mv (pc1 := 23) (lv1 := [(2, .long (-(Int32.toInt64 p1))), (0, .ref 33), (1, .int p1)]) (st1 := []) rfl rfl rfl ?_
      refine w_mv (pc1 := 24) (st1 := [.long 1]) rfl rfl rfl ?_
      refine w_mv (pc1 := 26) (lv1 := [(4, .long 1), (2, .long (-(Int32.toInt64 p1))), (0, .ref 33), (1, .int p1)]) (st1 := []) rfl rfl rfl ?_
      refine w_wk (l1 := [(0, .ref 33), (1, .int p1), (2, .long (-(Int32.toInt64 p1))), (4, .long 1)]) rfl ⟨rfl, rfl, rfl, rfl, trivial⟩ ?_
      exact hh A B d dc ds P hP
set_option maxRecDepth 20000 in
set_option maxHeartbeats 4000000 in
theorem r_157_26 {p1 : Int32} {e2 : Int64} {e4 : Int64} {v : Nat → Int32} {a : Nat → Nat → Int32} {K : Int32 → (Nat → Int32) → (Nat → Nat → Int32) → Prop} (hh : ¬ e4 = 0 ∧ (((lg_cmp (m_ldv e2 e4) 9).toInt ≤ 0 → mT 1 sM_157 48 [(0, .ref 33), (1, .int p1), (2, .long e2), (4, .long e4)] [] v a K) ∧ (0 < (lg_cmp (m_ldv e2 e4) 9).toInt → mT 1 sM_157 26 [(0, .ref 33), (1, .int p1), (2, .long e2), (4, .long (e4 * 10))] [] v a K))) : mT 1 sM_157 26 [(0, .ref 33), (1, .int p1), (2, .long e2), (4, .long e4)] [] v a K := by
  intro A B d dc ds P hP
  refine w_mv (pc1 := 27) (st1 := [.long e2]) rfl rfl rfl ?_
  refine w_mv (pc1 := 29) (st1 := [.long e4, .long e2]) rfl rfl rfl ?_
  obtain ⟨o1a, hh⟩ := hh
  refine w_ldiv (pc1 := 30) rfl o1a rfl ?_
  refine w_mv (pc1 := 33) (st1 := [.long 9, .long (m_ldv e2 e4)]) rfl rfl rfl ?_
  refine w_mv (pc1 := 34) (st1 := [.int (lg_cmp (m_ldv e2 e4) 9)]) rfl rfl rfl ?_
  by_cases h2 : (lg_cmp (m_ldv e2 e4) 9).toInt ≤ 0
  ·
    replace hh := hh.1 h2
    refine w_zle_T (pc1 := 48) rfl rfl (show (lg_cmp (m_ldv e2 e4) 9).toInt ≤ 0 from h2) ?_
    refine w_wk (l1 := [(0, .ref 33), (1, .int p1), (2, .long e2), (4, .long e4)]) rfl ⟨rfl, rfl, rfl, rfl, trivial⟩ ?_
    exact hh A B d dc ds P hP
  ·
    replace hh := hh.2 (Int.not_le.mp h2)
    refine w_zle_F (pc1 := 37) rfl (by decide) rfl (show 0 < (lg_cmp (m_ldv e2 e4) 9).toInt from (Int.not_le.mp h2)) ?_
    refine w_mv (pc1 := 39) (st1 := [.long e4]) rfl rfl rfl ?_
    refine w_mv (pc1 := 42) (st1 := [.long 10, .long e4]) rfl rfl rfl ?_
    refine w_mv (pc1 := 43) (st1 := [.long (e4 * 10)]) rfl rfl rfl ?_
    refine w_mv (pc1 := 45) (lv1 := [(4, .long (e4 * 10)), (0, .ref 33), (1, .int p1), (2, .long e2)]) (st1 := []) rfl rfl rfl ?_
    refine w_mv (pc1 := 26) (st1 := []) rfl rfl rfl ?_
    refine w_wk (l1 := [(0, .ref 33), (1, .int p1), (2, .long e2), (4, .long (e4 * 10))]) rfl ⟨rfl, rfl, rfl, rfl, trivial⟩ ?_
    exact hh A B d dc ds P hP
set_option maxRecDepth 20000 in
set_option maxHeartbeats 4000000 in
theorem r_157_48 {p1 : Int32} {e2 : Int64} {e4 : Int64} {v : Nat → Int32} {a : Nat → Nat → Int32} {K : Int32 → (Nat → Int32) → (Nat → Nat → Int32) → Prop} (hh : (((lg_cmp e4 0).toInt ≤ 0 → K 0 v a) ∧ (0 < (lg_cmp e4 0).toInt → ¬ e4 = 0 ∧ mT 0 sM_156 0 [(0, .ref 33), (1, .int ((Int64.toInt32 (m_lrm (m_ldv e2 e4) 10)) + 48))] [] v a (fun _ v3 a3 => mT 1 sM_157 48 [(0, .ref 33), (1, .int p1), (2, .long e2), (4, .long (m_ldv e4 10))] [] v3 a3 K)))) : mT 1 sM_157 48 [(0, .ref 33), (1, .int p1), (2, .long e2), (4, .long e4)] [] v a K := by
  intro A B d dc ds P hP
  refine w_mv (pc1 := 50) (st1 := [.long e4]) rfl rfl rfl ?_
  refine w_mv (pc1 := 51) (st1 := [.long 0, .long e4]) rfl rfl rfl ?_
  refine w_mv (pc1 := 52) (st1 := [.int (lg_cmp e4 0)]) rfl rfl rfl ?_
  by_cases h1 : (lg_cmp e4 0).toInt ≤ 0
  ·
    replace hh := hh.1 h1
    refine w_zle_T (pc1 := 82) rfl rfl (show (lg_cmp e4 0).toInt ≤ 0 from h1) ?_
    exact sx_wp.stop rfl rfl rfl (hP 0 _ _ hh)
  ·
    replace hh := hh.2 (Int.not_le.mp h1)
    refine w_zle_F (pc1 := 55) rfl (by decide) rfl (show 0 < (lg_cmp e4 0).toInt from (Int.not_le.mp h1)) ?_
    refine w_mv (pc1 := 56) (st1 := [.ref 33]) rfl rfl rfl ?_
    refine w_mv (pc1 := 57) (st1 := [.long e2, .ref 33]) rfl rfl rfl ?_
    refine w_mv (pc1 := 59) (st1 := [.long e4, .long e2, .ref 33]) rfl rfl rfl ?_
    obtain ⟨o2a, hh⟩ := hh
    refine w_ldiv (pc1 := 60) rfl o2a rfl ?_
    refine w_mv (pc1 := 63) (st1 := [.long 10, .long (m_ldv e2 e4), .ref 33]) rfl rfl rfl ?_
    refine w_lrem (pc1 := 64) rfl (by decide) rfl ?_
    refine w_mv (pc1 := 65) (st1 := [.int (Int64.toInt32 (m_lrm (m_ldv e2 e4) 10)), .ref 33]) rfl rfl rfl ?_
    refine w_mv (pc1 := 67) (st1 := [.int 48, .int (Int64.toInt32 (m_lrm (m_ldv e2 e4) 10)), .ref 33]) rfl rfl rfl ?_
    refine w_mv (pc1 := 68) (st1 := [.int ((Int64.toInt32 (m_lrm (m_ldv e2 e4) 10)) + 48), .ref 33]) rfl rfl rfl ?_
    refine w_call (M' := sM_156) (vals := [.ref 33, .int ((Int64.toInt32 (m_lrm (m_ldv e2 e4) 10)) + 48)]) (rest := []) (lv' := [(0, .ref 33), (1, .int ((Int64.toInt32 (m_lrm (m_ldv e2 e4) 10)) + 48))]) rfl rfl rfl rfl rfl rfl rfl rfl rfl rfl ?_
    refine hh A B _ dc ds _ (fun r3 v3 a3 hh => ?_)
    show s_kont _ _ _ _ _ _ _ (.inl none) (mH A B v3 a3) dc ds
    refine w_kv (pc1 := 71) rfl ?_
    refine w_mv (pc1 := 73) (st1 := [.long e4]) rfl rfl rfl ?_
    refine w_mv (pc1 := 76) (st1 := [.long 10, .long e4]) rfl rfl rfl ?_
    refine w_ldiv (pc1 := 77) rfl (by decide) rfl ?_
    refine w_mv (pc1 := 79) (lv1 := [(4, .long (m_ldv e4 10)), (0, .ref 33), (1, .int p1), (2, .long e2)]) (st1 := []) rfl rfl rfl ?_
    refine w_mv (pc1 := 48) (st1 := []) rfl rfl rfl ?_
    refine w_wk (l1 := [(0, .ref 33), (1, .int p1), (2, .long e2), (4, .long (m_ldv e4 10))]) rfl ⟨rfl, rfl, rfl, rfl, trivial⟩ ?_
    exact hh A B d dc ds P hP
set_option maxRecDepth 20000 in
set_option maxHeartbeats 4000000 in
theorem r_158_0 {p1 : Int32} {v : Nat → Int32} {a : Nat → Nat → Int32} {K : Int32 → (Nat → Int32) → (Nat → Nat → Int32) → Prop} (hh : ((0 ≤ p1.toInt → p1.toInt ≤ 25 → (((v 42).toInt = 0 → K (-1) (va_up v 11 0) a) ∧ ((v 42).toInt ≠ 0 → 0 ≤ p1.toInt ∧ p1.toInt < 26 ∧ ((((a 6) p1.toNatClampNeg).toInt ≠ 2147483647 → 0 ≤ p1.toInt ∧ p1.toInt < 26 ∧ mT 0 sM_136 0 [(0, .ref 33), (1, .int ((a 6) p1.toNatClampNeg))] [] (va_up v 11 0) a (fun r6 v6 a6 => mT 1 sM_158 52 [(0, .ref 33), (1, .int p1), (2, .int r6), (3, .int 0), (4, .int 0)] [] v6 a6 K)) ∧ (((a 6) p1.toNatClampNeg).toInt = 2147483647 → K (-1) (va_up v 11 0) a))))) ∧ ((p1.toInt < 0 ∨ 25 < p1.toInt) → K 0 (va_up v 11 1) a))) : mT 1 sM_158 0 [(0, .ref 33), (1, .int p1)] [] v a K := by
  intro A B d dc ds P hP
  refine w_mv (pc1 := 1) (st1 := [.ref 33]) rfl rfl rfl ?_
  refine w_mv (pc1 := 2) (st1 := [.int p1, .ref 33]) rfl rfl rfl ?_
  refine w_mv (pc1 := 3) (st1 := [.int 0, .int p1, .ref 33]) rfl rfl rfl ?_
  refine w_mv (pc1 := 5) (st1 := [.int 25, .int 0, .int p1, .ref 33]) rfl rfl rfl ?_
  refine w_call (M' := sM_111) (vals := [.int p1, .int 0, .int 25]) (rest := [.ref 33]) (lv' := [(0, .int p1), (1, .int 0), (2, .int 25)]) rfl rfl rfl rfl rfl rfl rfl rfl rfl rfl ?_
  refine m_in (fun h1a h1b => ?_) (fun h1c => ?_)
  ·
    replace hh := hh.1 h1a h1b
    refine w_ki (pc1 := 8) rfl ?_
    refine w_call (M' := sM_112) (vals := [.ref 33, .int 1]) (rest := []) (lv' := [(0, .ref 33), (1, .int 1)]) rfl rfl rfl rfl rfl rfl rfl rfl rfl rfl ?_
    refine w_mv (pc1 := 1) (st1 := [.ref 33]) rfl rfl rfl ?_
    refine w_mv (pc1 := 2) (st1 := [.int 1, .ref 33]) rfl rfl rfl ?_
    refine w_mv (pc1 := 5) (st1 := [.ref 33]) rfl rfl rfl ?_
    refine w_mv (pc1 := 6) (st1 := [.int 0, .ref 33]) rfl rfl rfl ?_
    refine w_mv (pc1 := 10) (st1 := [.int 0, .ref 33]) rfl rfl rfl ?_
    refine w_st (pc1 := 13) (st1 := []) (hs1 := mH A B (va_up v 11 0) a) (dc1 := 0) (ds1 := 0) (dc2 := dc) (ds2 := ds) rfl rfl rfl rfl rfl ?_
    refine w_mv (pc1 := 14) (st1 := [.int 1]) rfl rfl rfl ?_
    refine w_mv (pc1 := 21) (st1 := []) rfl rfl rfl ?_
    refine w_mv (pc1 := 22) (st1 := [.int 0]) rfl rfl rfl ?_
    refine w_iret (pc1 := 11) rfl rfl rfl rfl ?_
    refine w_mv (pc1 := 16) (st1 := []) rfl rfl rfl ?_
    refine w_mv (pc1 := 17) (st1 := [.ref 33]) rfl rfl rfl ?_
    refine w_mv (pc1 := 20) (st1 := [.int (v 42)]) rfl rfl rfl ?_
    by_cases h2 : (v 42).toInt = 0
    ·
      replace hh := hh.1 h2
      refine w_zeq_T (pc1 := 34) rfl rfl (show (v 42).toInt = 0 from h2) ?_
      refine w_mv (pc1 := 35) (st1 := [.int (-1)]) rfl rfl rfl ?_
      exact sx_wp.stop rfl rfl rfl (hP (-1) _ _ hh)
    ·
      replace hh := hh.2 h2
      refine w_zeq_F (pc1 := 23) rfl (by decide) rfl (show (v 42).toInt ≠ 0 from h2) ?_
      refine w_mv (pc1 := 24) (st1 := [.ref 33]) rfl rfl rfl ?_
      refine w_mv (pc1 := 27) (st1 := [.ref 40]) rfl rfl rfl ?_
      refine w_mv (pc1 := 28) (st1 := [.int p1, .ref 40]) rfl rfl rfl ?_
      obtain ⟨o3a, o3b, hh⟩ := hh
      refine w_ald (x := 40) (t := 0) (A := (26, .inl (a 6))) (v := .int ((a 6) p1.toNatClampNeg)) (pc1 := 29) rfl rfl rfl rfl rfl o3a o3b rfl rfl ?_
      refine w_mv (pc1 := 31) (st1 := [.int 2147483647, .int ((a 6) p1.toNatClampNeg)]) rfl rfl rfl ?_
      by_cases h4 : ((a 6) p1.toNatClampNeg).toInt = 2147483647
      ·
        replace hh := hh.2 h4
        refine w_ine_F (pc1 := 34) rfl (by decide) rfl (show ((a 6) p1.toNatClampNeg).toInt = 2147483647 from h4) ?_
        refine w_mv (pc1 := 35) (st1 := [.int (-1)]) rfl rfl rfl ?_
        exact sx_wp.stop rfl rfl rfl (hP (-1) _ _ hh)
      ·
        replace hh := hh.1 h4
        refine w_ine_T (pc1 := 36) rfl rfl (show ((a 6) p1.toNatClampNeg).toInt ≠ 2147483647 from h4) ?_
        refine w_mv (pc1 := 37) (st1 := [.ref 33]) rfl rfl rfl ?_
        refine w_mv (pc1 := 38) (st1 := [.ref 33, .ref 33]) rfl rfl rfl ?_
        refine w_mv (pc1 := 41) (st1 := [.ref 40, .ref 33]) rfl rfl rfl ?_
        refine w_mv (pc1 := 42) (st1 := [.int p1, .ref 40, .ref 33]) rfl rfl rfl ?_
        obtain ⟨o5a, o5b, hh⟩ := hh
        refine w_ald (x := 40) (t := 0) (A := (26, .inl (a 6))) (v := .int ((a 6) p1.toNatClampNeg)) (pc1 := 43) rfl rfl rfl rfl rfl o5a o5b rfl rfl ?_
        refine w_call (M' := sM_136) (vals := [.ref 33, .int ((a 6) p1.toNatClampNeg)]) (rest := []) (lv' := [(0, .ref 33), (1, .int ((a 6) p1.toNatClampNeg))]) rfl rfl rfl rfl rfl rfl rfl rfl rfl rfl ?_
        refine hh A B _ dc ds _ (fun r6 v6 a6 hh => ?_)
        show s_kont _ _ _ _ _ _ _ (.inl (some (.int r6))) (mH A B v6 a6) dc ds
        refine w_ki (pc1 := 46) rfl ?_
        refine w_mv (pc1 := 47) (lv1 := [(2, .int r6), (0, .ref 33), (1, .int p1)]) (st1 := []) rfl rfl rfl ?_
        refine w_mv (pc1 := 48) (st1 := [.int 0]) rfl rfl rfl ?_
        refine w_mv (pc1 := 49) (lv1 := [(3, .int 0), (2, .int r6), (0, .ref 33), (1, .int p1)]) (st1 := []) rfl rfl rfl ?_
        refine w_mv (pc1 := 50) (st1 := [.int 0]) rfl rfl rfl ?_
        refine w_mv (pc1 := 52) (lv1 := [(4, .int 0), (3, .int 0), (2, .int r6), (0, .ref 33), (1, .int p1)]) (st1 := []) rfl rfl rfl ?_
        refine w_wk (l1 := [(0, .ref 33), (1, .int p1), (2, .int r6), (3, .int 0), (4, .int 0)]) rfl ⟨rfl, rfl, rfl, rfl, rfl, trivial⟩ ?_
        exact hh A B d dc ds P hP
  ·
    replace hh := hh.2 h1c
    refine w_ki (pc1 := 8) rfl ?_
    refine w_call (M' := sM_112) (vals := [.ref 33, .int 0]) (rest := []) (lv' := [(0, .ref 33), (1, .int 0)]) rfl rfl rfl rfl rfl rfl rfl rfl rfl rfl ?_
    refine w_mv (pc1 := 1) (st1 := [.ref 33]) rfl rfl rfl ?_
    refine w_mv (pc1 := 2) (st1 := [.int 0, .ref 33]) rfl rfl rfl ?_
    refine w_mv (pc1 := 9) (st1 := [.ref 33]) rfl rfl rfl ?_
    refine w_mv (pc1 := 10) (st1 := [.int 1, .ref 33]) rfl rfl rfl ?_
    refine w_st (pc1 := 13) (st1 := []) (hs1 := mH A B (va_up v 11 1) a) (dc1 := 0) (ds1 := 0) (dc2 := dc) (ds2 := ds) rfl rfl rfl rfl rfl ?_
    refine w_mv (pc1 := 14) (st1 := [.int 0]) rfl rfl rfl ?_
    refine w_mv (pc1 := 17) (st1 := []) rfl rfl rfl ?_
    refine w_mv (pc1 := 18) (st1 := [.int 1]) rfl rfl rfl ?_
    refine w_mv (pc1 := 22) (st1 := [.int 1]) rfl rfl rfl ?_
    refine w_iret (pc1 := 11) rfl rfl rfl rfl ?_
    refine w_mv (pc1 := 14) (st1 := []) rfl rfl rfl ?_
    refine w_mv (pc1 := 15) (st1 := [.int 0]) rfl rfl rfl ?_
    exact sx_wp.stop rfl rfl rfl (hP 0 _ _ hh)
set_option maxRecDepth 20000 in
set_option maxHeartbeats 4000000 in
theorem r_158_52 {p1 : Int32} {p2 : Int32} {p3 : Int32} {p4 : Int32} {v : Nat → Int32} {a : Nat → Nat → Int32} {K : Int32 → (Nat → Int32) → (Nat → Nat → Int32) → Prop} (hh : ((61 ≤ p4.toInt → K p3 v a) ∧ (p4.toInt < 61 → ((0 ≤ p2.toInt → mT 1 sM_158 52 [(0, .ref 33), (1, .int p1), (2, .int p2), (3, .int p3), (4, .int (p4 + 1))] [] v a K) ∧ (p2.toInt < 0 → 0 ≤ p4.toInt ∧ p4.toInt < 61 ∧ ((((a 30) p4.toNatClampNeg).toInt = 0 → mT 1 sM_158 52 [(0, .ref 33), (1, .int p1), (2, .int p2), (3, .int p3), (4, .int (p4 + 1))] [] v a K) ∧ (((a 30) p4.toNatClampNeg).toInt ≠ 0 → mT 0 sM_153 0 [(0, .ref 33), (1, .int p4), (2, .int p2)] [] v a (fun r5 v5 a5 => ((r5.toInt = 0 → mT 1 sM_158 52 [(0, .ref 33), (1, .int p1), (2, .int p2), (3, .int p3), (4, .int (p4 + 1))] [] v5 a5 K) ∧ (r5.toInt ≠ 0 → mT 1 sM_158 52 [(0, .ref 33), (1, .int p1), (2, .int p2), (3, .int (p3 + 1)), (4, .int (p4 + 1))] [] v5 a5 K)))))))))) : mT 1 sM_158 52 [(0, .ref 33), (1, .int p1), (2, .int p2), (3, .int p3), (4, .int p4)] [] v a K := by
  intro A B d dc ds P hP
  refine w_mv (pc1 := 54) (st1 := [.int p4]) rfl rfl rfl ?_
  refine w_mv (pc1 := 56) (st1 := [.int 61, .int p4]) rfl rfl rfl ?_
  by_cases h1 : 61 ≤ p4.toInt
  ·
    replace hh := hh.1 h1
    refine w_ige_T (pc1 := 92) rfl rfl (show 61 ≤ p4.toInt from h1) ?_
    refine w_mv (pc1 := 93) (st1 := [.int p3]) rfl rfl rfl ?_
    exact sx_wp.stop rfl rfl rfl (hP p3 _ _ hh)
  ·
    replace hh := hh.2 (Int.not_le.mp h1)
    refine w_ige_F (pc1 := 59) rfl (by decide) rfl (show p4.toInt < 61 from (Int.not_le.mp h1)) ?_
    refine w_mv (pc1 := 60) (st1 := [.int p2]) rfl rfl rfl ?_
    by_cases h2 : 0 ≤ p2.toInt
    ·
      replace hh := hh.1 h2
      refine w_zge_T (pc1 := 86) rfl rfl (show 0 ≤ p2.toInt from h2) ?_
      refine w_mv (pc1 := 89) (lv1 := [(4, .int (p4 + 1)), (0, .ref 33), (1, .int p1), (2, .int p2), (3, .int p3)]) (st1 := []) rfl rfl rfl ?_
      refine w_mv (pc1 := 52) (st1 := []) rfl rfl rfl ?_
      refine w_wk (l1 := [(0, .ref 33), (1, .int p1), (2, .int p2), (3, .int p3), (4, .int (p4 + 1))]) rfl ⟨rfl, rfl, rfl, rfl, rfl, trivial⟩ ?_
      exact hh A B d dc ds P hP
    ·
      replace hh := hh.2 (Int.not_le.mp h2)
      refine w_zge_F (pc1 := 63) rfl (by decide) rfl (show p2.toInt < 0 from (Int.not_le.mp h2)) ?_
      refine w_mv (pc1 := 64) (st1 := [.ref 33]) rfl rfl rfl ?_
      refine w_mv (pc1 := 67) (st1 := [.ref 57]) rfl rfl rfl ?_
      refine w_mv (pc1 := 69) (st1 := [.int p4, .ref 57]) rfl rfl rfl ?_
      obtain ⟨o3a, o3b, hh⟩ := hh
      refine w_ald (x := 57) (t := 2) (A := (61, .inl (a 30))) (v := .int ((a 30) p4.toNatClampNeg)) (pc1 := 70) rfl rfl rfl rfl rfl o3a o3b rfl rfl ?_
      by_cases h4 : ((a 30) p4.toNatClampNeg).toInt = 0
      ·
        replace hh := hh.1 h4
        refine w_zeq_T (pc1 := 86) rfl rfl (show ((a 30) p4.toNatClampNeg).toInt = 0 from h4) ?_
        refine w_mv (pc1 := 89) (lv1 := [(4, .int (p4 + 1)), (0, .ref 33), (1, .int p1), (2, .int p2), (3, .int p3)]) (st1 := []) rfl rfl rfl ?_
        refine w_mv (pc1 := 52) (st1 := []) rfl rfl rfl ?_
        refine w_wk (l1 := [(0, .ref 33), (1, .int p1), (2, .int p2), (3, .int p3), (4, .int (p4 + 1))]) rfl ⟨rfl, rfl, rfl, rfl, rfl, trivial⟩ ?_
        exact hh A B d dc ds P hP
      ·
        replace hh := hh.2 h4
        refine w_zeq_F (pc1 := 73) rfl (by decide) rfl (show ((a 30) p4.toNatClampNeg).toInt ≠ 0 from h4) ?_
        refine w_mv (pc1 := 74) (st1 := [.ref 33]) rfl rfl rfl ?_
        refine w_mv (pc1 := 76) (st1 := [.int p4, .ref 33]) rfl rfl rfl ?_
        refine w_mv (pc1 := 77) (st1 := [.int p2, .int p4, .ref 33]) rfl rfl rfl ?_
        refine w_call (M' := sM_153) (vals := [.ref 33, .int p4, .int p2]) (rest := []) (lv' := [(0, .ref 33), (1, .int p4), (2, .int p2)]) rfl rfl rfl rfl rfl rfl rfl rfl rfl rfl ?_
        refine hh A B _ dc ds _ (fun r5 v5 a5 hh => ?_)
        show s_kont _ _ _ _ _ _ _ (.inl (some (.int r5))) (mH A B v5 a5) dc ds
        refine w_ki (pc1 := 80) rfl ?_
        by_cases h6 : r5.toInt = 0
        ·
          replace hh := hh.1 h6
          refine w_zeq_T (pc1 := 86) rfl rfl (show r5.toInt = 0 from h6) ?_
          refine w_mv (pc1 := 89) (lv1 := [(4, .int (p4 + 1)), (0, .ref 33), (1, .int p1), (2, .int p2), (3, .int p3)]) (st1 := []) rfl rfl rfl ?_
          refine w_mv (pc1 := 52) (st1 := []) rfl rfl rfl ?_
          refine w_wk (l1 := [(0, .ref 33), (1, .int p1), (2, .int p2), (3, .int p3), (4, .int (p4 + 1))]) rfl ⟨rfl, rfl, rfl, rfl, rfl, trivial⟩ ?_
          exact hh A B d dc ds P hP
        ·
          replace hh := hh.2 h6
          refine w_zeq_F (pc1 := 83) rfl (by decide) rfl (show r5.toInt ≠ 0 from h6) ?_
          refine w_mv (pc1 := 86) (lv1 := [(3, .int (p3 + 1)), (0, .ref 33), (1, .int p1), (2, .int p2), (4, .int p4)]) (st1 := []) rfl rfl rfl ?_
          refine w_mv (pc1 := 89) (lv1 := [(4, .int (p4 + 1)), (3, .int (p3 + 1)), (0, .ref 33), (1, .int p1), (2, .int p2)]) (st1 := []) rfl rfl rfl ?_
          refine w_mv (pc1 := 52) (st1 := []) rfl rfl rfl ?_
          refine w_wk (l1 := [(0, .ref 33), (1, .int p1), (2, .int p2), (3, .int (p3 + 1)), (4, .int (p4 + 1))]) rfl ⟨rfl, rfl, rfl, rfl, rfl, trivial⟩ ?_
          exact hh A B d dc ds P hP
set_option maxRecDepth 20000 in
set_option maxHeartbeats 4000000 in
theorem r_159_0 {p1 : Int32} {v : Nat → Int32} {a : Nat → Nat → Int32} {K : Int32 → (Nat → Int32) → (Nat → Nat → Int32) → Prop} (hh : ((p1.toInt ≠ 0 → ((p1.toInt ≠ 1 → ((p1.toInt ≠ 2 → ((3 ≤ p1.toInt → p1.toInt ≤ 8 → (((v 42).toInt ≠ 0 → ((p1.toInt ≤ 9 → ((p1.toInt ≠ 3 → ((p1.toInt ≠ 4 → ((p1.toInt ≠ 5 → ((p1.toInt ≠ 6 → ((p1.toInt ≠ 7 → K (v 42) (va_up v 11 0) a) ∧ (p1.toInt = 7 → K (v 41) (va_up v 11 0) a))) ∧ (p1.toInt = 6 → K (v 38) (va_up v 11 0) a))) ∧ (p1.toInt = 5 → K (v 40) (va_up v 11 0) a))) ∧ (p1.toInt = 4 → K (((((a 28) 0) + ((a 28) 1)) + ((a 28) 2)) + ((a 28) 3)) (va_up v 11 0) a))) ∧ (p1.toInt = 3 → K (v 39) (va_up v 11 0) a))) ∧ (9 < p1.toInt → 0 ≤ (p1 - 10).toInt ∧ (p1 - 10).toInt < 4 ∧ K ((a 28) (p1 - 10).toNatClampNeg) (va_up v 11 0) a))) ∧ ((v 42).toInt = 0 → K 0 (va_up v 11 0) a))) ∧ ((p1.toInt < 3 ∨ 8 < p1.toInt) → ((10 ≤ p1.toInt → p1.toInt ≤ 13 → (((v 42).toInt ≠ 0 → ((p1.toInt ≤ 9 → ((p1.toInt ≠ 3 → ((p1.toInt ≠ 4 → ((p1.toInt ≠ 5 → ((p1.toInt ≠ 6 → ((p1.toInt ≠ 7 → K (v 42) (va_up v 11 0) a) ∧ (p1.toInt = 7 → K (v 41) (va_up v 11 0) a))) ∧ (p1.toInt = 6 → K (v 38) (va_up v 11 0) a))) ∧ (p1.toInt = 5 → K (v 40) (va_up v 11 0) a))) ∧ (p1.toInt = 4 → K (((((a 28) 0) + ((a 28) 1)) + ((a 28) 2)) + ((a 28) 3)) (va_up v 11 0) a))) ∧ (p1.toInt = 3 → K (v 39) (va_up v 11 0) a))) ∧ (9 < p1.toInt → 0 ≤ (p1 - 10).toInt ∧ (p1 - 10).toInt < 4 ∧ K ((a 28) (p1 - 10).toNatClampNeg) (va_up v 11 0) a))) ∧ ((v 42).toInt = 0 → K 0 (va_up v 11 0) a))) ∧ ((p1.toInt < 10 ∨ 13 < p1.toInt) → K (-1) (va_up v 11 0) a))))) ∧ (p1.toInt = 2 → K (v 8) (va_up v 11 0) a))) ∧ (p1.toInt = 1 → K (v 7) (va_up v 11 0) a))) ∧ (p1.toInt = 0 → K (v 9) (va_up v 11 0) a))) : mT 1 sM_159 0 [(0, .ref 33), (1, .int p1)] [] v a K := by
  intro A B d dc ds P hP
  refine w_mv (pc1 := 1) (st1 := [.ref 33]) rfl rfl rfl ?_
  refine w_mv (pc1 := 2) (st1 := [.int 0, .ref 33]) rfl rfl rfl ?_
  refine w_st (pc1 := 5) (st1 := []) (hs1 := mH A B (va_up v 11 0) a) (dc1 := 0) (ds1 := 0) (dc2 := dc) (ds2 := ds) rfl rfl rfl rfl rfl ?_
  refine w_mv (pc1 := 6) (st1 := [.int p1]) rfl rfl rfl ?_
  by_cases h1 : p1.toInt = 0
  ·
    replace hh := hh.2 h1
    refine w_zne_F (pc1 := 9) rfl (by decide) rfl (show p1.toInt = 0 from h1) ?_
    refine w_mv (pc1 := 10) (st1 := [.ref 33]) rfl rfl rfl ?_
    refine w_mv (pc1 := 13) (st1 := [.int (v 9)]) rfl rfl rfl ?_
    exact sx_wp.stop rfl rfl rfl (hP (v 9) _ _ hh)
  ·
    replace hh := hh.1 h1
    refine w_zne_T (pc1 := 14) rfl rfl (show p1.toInt ≠ 0 from h1) ?_
    refine w_mv (pc1 := 15) (st1 := [.int p1]) rfl rfl rfl ?_
    refine w_mv (pc1 := 16) (st1 := [.int 1, .int p1]) rfl rfl rfl ?_
    by_cases h2 : p1.toInt = 1
    ·
      replace hh := hh.2 h2
      refine w_ine_F (pc1 := 19) rfl (by decide) rfl (show p1.toInt = 1 from h2) ?_
      refine w_mv (pc1 := 20) (st1 := [.ref 33]) rfl rfl rfl ?_
      refine w_mv (pc1 := 23) (st1 := [.int (v 7)]) rfl rfl rfl ?_
      exact sx_wp.stop rfl rfl rfl (hP (v 7) _ _ hh)
    ·
      replace hh := hh.1 h2
      refine w_ine_T (pc1 := 24) rfl rfl (show p1.toInt ≠ 1 from h2) ?_
      refine w_mv (pc1 := 25) (st1 := [.int p1]) rfl rfl rfl ?_
      refine w_mv (pc1 := 26) (st1 := [.int 2, .int p1]) rfl rfl rfl ?_
      by_cases h3 : p1.toInt = 2
      ·
        replace hh := hh.2 h3
        refine w_ine_F (pc1 := 29) rfl (by decide) rfl (show p1.toInt = 2 from h3) ?_
        refine w_mv (pc1 := 30) (st1 := [.ref 33]) rfl rfl rfl ?_
        refine w_mv (pc1 := 33) (st1 := [.int (v 8)]) rfl rfl rfl ?_
        exact sx_wp.stop rfl rfl rfl (hP (v 8) _ _ hh)
      ·
        replace hh := hh.1 h3
        refine w_ine_T (pc1 := 34) rfl rfl (show p1.toInt ≠ 2 from h3) ?_
        refine w_mv (pc1 := 35) (st1 := [.int p1]) rfl rfl rfl ?_
        refine w_mv (pc1 := 36) (st1 := [.int 3, .int p1]) rfl rfl rfl ?_
        refine w_mv (pc1 := 38) (st1 := [.int 8, .int 3, .int p1]) rfl rfl rfl ?_
        refine w_call (M' := sM_111) (vals := [.int p1, .int 3, .int 8]) (rest := []) (lv' := [(0, .int p1), (1, .int 3), (2, .int 8)]) rfl rfl rfl rfl rfl rfl rfl rfl rfl rfl ?_
        refine m_in (fun h4a h4b => ?_) (fun h4c => ?_)
        ·
          replace hh := hh.1 h4a h4b
          refine w_ki (pc1 := 41) rfl ?_
          refine w_mv (pc1 := 57) (st1 := []) rfl rfl rfl ?_
          refine w_mv (pc1 := 58) (st1 := [.ref 33]) rfl rfl rfl ?_
          refine w_mv (pc1 := 61) (st1 := [.int (v 42)]) rfl rfl rfl ?_
          by_cases h5 : (v 42).toInt = 0
          ·
            replace hh := hh.2 h5
            refine w_zne_F (pc1 := 64) rfl (by decide) rfl (show (v 42).toInt = 0 from h5) ?_
            refine w_mv (pc1 := 65) (st1 := [.int 0]) rfl rfl rfl ?_
            exact sx_wp.stop rfl rfl rfl (hP 0 _ _ hh)
          ·
            replace hh := hh.1 h5
            refine w_zne_T (pc1 := 66) rfl rfl (show (v 42).toInt ≠ 0 from h5) ?_
            refine w_mv (pc1 := 67) (st1 := [.int p1]) rfl rfl rfl ?_
            refine w_mv (pc1 := 69) (st1 := [.int 9, .int p1]) rfl rfl rfl ?_
            by_cases h6 : p1.toInt ≤ 9
            ·
              replace hh := hh.1 h6
              refine w_ile_T (pc1 := 82) rfl rfl (show p1.toInt ≤ 9 from h6) ?_
              refine w_mv (pc1 := 83) (st1 := [.int p1]) rfl rfl rfl ?_
              refine w_mv (pc1 := 84) (st1 := [.int 3, .int p1]) rfl rfl rfl ?_
              by_cases h7 : p1.toInt = 3
              ·
                replace hh := hh.2 h7
                refine w_ine_F (pc1 := 87) rfl (by decide) rfl (show p1.toInt = 3 from h7) ?_
                refine w_mv (pc1 := 88) (st1 := [.ref 33]) rfl rfl rfl ?_
                refine w_mv (pc1 := 91) (st1 := [.int (v 39)]) rfl rfl rfl ?_
                refine w_mv (pc1 := 148) (st1 := [.int (v 39)]) rfl rfl rfl ?_
                exact sx_wp.stop rfl rfl rfl (hP (v 39) _ _ hh)
              ·
                replace hh := hh.1 h7
                refine w_ine_T (pc1 := 94) rfl rfl (show p1.toInt ≠ 3 from h7) ?_
                refine w_mv (pc1 := 95) (st1 := [.int p1]) rfl rfl rfl ?_
                refine w_mv (pc1 := 96) (st1 := [.int 4, .int p1]) rfl rfl rfl ?_
                by_cases h8 : p1.toInt = 4
                ·
                  replace hh := hh.2 h8
                  refine w_ine_F (pc1 := 99) rfl (by decide) rfl (show p1.toInt = 4 from h8) ?_
                  refine w_mv (pc1 := 100) (st1 := [.ref 33]) rfl rfl rfl ?_
                  refine w_call (M' := sM_131) (vals := [.ref 33]) (rest := []) (lv' := [(0, .ref 33)]) rfl rfl rfl rfl rfl rfl rfl rfl rfl rfl ?_
                  refine w_mv (pc1 := 1) (st1 := [.ref 33]) rfl rfl rfl ?_
                  refine w_mv (pc1 := 4) (st1 := [.ref 55]) rfl rfl rfl ?_
                  refine w_mv (pc1 := 5) (st1 := [.int 0, .ref 55]) rfl rfl rfl ?_
                  refine w_mv (pc1 := 6) (st1 := [.int ((a 28) 0)]) rfl rfl rfl ?_
                  refine w_mv (pc1 := 7) (st1 := [.ref 33, .int ((a 28) 0)]) rfl rfl rfl ?_
                  refine w_mv (pc1 := 10) (st1 := [.ref 55, .int ((a 28) 0)]) rfl rfl rfl ?_
                  refine w_mv (pc1 := 11) (st1 := [.int 1, .ref 55, .int ((a 28) 0)]) rfl rfl rfl ?_
                  refine w_mv (pc1 := 12) (st1 := [.int ((a 28) 1), .int ((a 28) 0)]) rfl rfl rfl ?_
                  refine w_mv (pc1 := 13) (st1 := [.int (((a 28) 0) + ((a 28) 1))]) rfl rfl rfl ?_
                  refine w_mv (pc1 := 14) (st1 := [.ref 33, .int (((a 28) 0) + ((a 28) 1))]) rfl rfl rfl ?_
                  refine w_mv (pc1 := 17) (st1 := [.ref 55, .int (((a 28) 0) + ((a 28) 1))]) rfl rfl rfl ?_
                  refine w_mv (pc1 := 18) (st1 := [.int 2, .ref 55, .int (((a 28) 0) + ((a 28) 1))]) rfl rfl rfl ?_
                  refine w_mv (pc1 := 19) (st1 := [.int ((a 28) 2), .int (((a 28) 0) + ((a 28) 1))]) rfl rfl rfl ?_
                  refine w_mv (pc1 := 20) (st1 := [.int ((((a 28) 0) + ((a 28) 1)) + ((a 28) 2))]) rfl rfl rfl ?_
                  refine w_mv (pc1 := 21) (st1 := [.ref 33, .int ((((a 28) 0) + ((a 28) 1)) + ((a 28) 2))]) rfl rfl rfl ?_
                  refine w_mv (pc1 := 24) (st1 := [.ref 55, .int ((((a 28) 0) + ((a 28) 1)) + ((a 28) 2))]) rfl rfl rfl ?_
                  refine w_mv (pc1 := 25) (st1 := [.int 3, .ref 55, .int ((((a 28) 0) + ((a 28) 1)) + ((a 28) 2))]) rfl rfl rfl ?_
                  refine w_mv (pc1 := 26) (st1 := [.int ((a 28) 3), .int ((((a 28) 0) + ((a 28) 1)) + ((a 28) 2))]) rfl rfl rfl ?_
                  refine w_mv (pc1 := 27) (st1 := [.int (((((a 28) 0) + ((a 28) 1)) + ((a 28) 2)) + ((a 28) 3))]) rfl rfl rfl ?_
                  refine w_iret (pc1 := 103) rfl rfl rfl rfl ?_
                  refine w_mv (pc1 := 148) (st1 := [.int (((((a 28) 0) + ((a 28) 1)) + ((a 28) 2)) + ((a 28) 3))]) rfl rfl rfl ?_
                  exact sx_wp.stop rfl rfl rfl (hP (((((a 28) 0) + ((a 28) 1)) + ((a 28) 2)) + ((a 28) 3)) _ _ hh)
                ·
                  replace hh := hh.1 h8
                  refine w_ine_T (pc1 := 106) rfl rfl (show p1.toInt ≠ 4 from h8) ?_
                  refine w_mv (pc1 := 107) (st1 := [.int p1]) rfl rfl rfl ?_
                  refine w_mv (pc1 := 108) (st1 := [.int 5, .int p1]) rfl rfl rfl ?_
                  by_cases h9 : p1.toInt = 5
                  ·
                    replace hh := hh.2 h9
                    refine w_ine_F (pc1 := 111) rfl (by decide) rfl (show p1.toInt = 5 from h9) ?_
                    refine w_mv (pc1 := 112) (st1 := [.ref 33]) rfl rfl rfl ?_
                    refine w_mv (pc1 := 115) (st1 := [.int (v 40)]) rfl rfl rfl ?_
                    refine w_mv (pc1 := 148) (st1 := [.int (v 40)]) rfl rfl rfl ?_
                    exact sx_wp.stop rfl rfl rfl (hP (v 40) _ _ hh)
                  ·
                    replace hh := hh.1 h9
                    refine w_ine_T (pc1 := 118) rfl rfl (show p1.toInt ≠ 5 from h9) ?_
                    refine w_mv (pc1 := 119) (st1 := [.int p1]) rfl rfl rfl ?_
                    refine w_mv (pc1 := 121) (st1 := [.int 6, .int p1]) rfl rfl rfl ?_
                    by_cases h10 : p1.toInt = 6
                    ·
                      replace hh := hh.2 h10
                      refine w_ine_F (pc1 := 124) rfl (by decide) rfl (show p1.toInt = 6 from h10) ?_
                      refine w_mv (pc1 := 125) (st1 := [.ref 33]) rfl rfl rfl ?_
                      refine w_mv (pc1 := 128) (st1 := [.int (v 38)]) rfl rfl rfl ?_
                      refine w_mv (pc1 := 148) (st1 := [.int (v 38)]) rfl rfl rfl ?_
                      exact sx_wp.stop rfl rfl rfl (hP (v 38) _ _ hh)
                    ·
                      replace hh := hh.1 h10
                      refine w_ine_T (pc1 := 131) rfl rfl (show p1.toInt ≠ 6 from h10) ?_
                      refine w_mv (pc1 := 132) (st1 := [.int p1]) rfl rfl rfl ?_
                      refine w_mv (pc1 := 134) (st1 := [.int 7, .int p1]) rfl rfl rfl ?_
                      by_cases h11 : p1.toInt = 7
                      ·
                        replace hh := hh.2 h11
                        refine w_ine_F (pc1 := 137) rfl (by decide) rfl (show p1.toInt = 7 from h11) ?_
                        refine w_mv (pc1 := 138) (st1 := [.ref 33]) rfl rfl rfl ?_
                        refine w_mv (pc1 := 141) (st1 := [.int (v 41)]) rfl rfl rfl ?_
                        refine w_mv (pc1 := 148) (st1 := [.int (v 41)]) rfl rfl rfl ?_
                        exact sx_wp.stop rfl rfl rfl (hP (v 41) _ _ hh)
                      ·
                        replace hh := hh.1 h11
                        refine w_ine_T (pc1 := 144) rfl rfl (show p1.toInt ≠ 7 from h11) ?_
                        refine w_mv (pc1 := 145) (st1 := [.ref 33]) rfl rfl rfl ?_
                        refine w_mv (pc1 := 148) (st1 := [.int (v 42)]) rfl rfl rfl ?_
                        exact sx_wp.stop rfl rfl rfl (hP (v 42) _ _ hh)
            ·
              replace hh := hh.2 (Int.not_le.mp h6)
              refine w_ile_F (pc1 := 72) rfl (by decide) rfl (show 9 < p1.toInt from (Int.not_le.mp h6)) ?_
              refine w_mv (pc1 := 73) (st1 := [.ref 33]) rfl rfl rfl ?_
              refine w_mv (pc1 := 76) (st1 := [.ref 55]) rfl rfl rfl ?_
              refine w_mv (pc1 := 77) (st1 := [.int p1, .ref 55]) rfl rfl rfl ?_
              refine w_mv (pc1 := 79) (st1 := [.int 10, .int p1, .ref 55]) rfl rfl rfl ?_
              refine w_mv (pc1 := 80) (st1 := [.int (p1 - 10), .ref 55]) rfl rfl rfl ?_
              obtain ⟨o12a, o12b, hh⟩ := hh
              refine w_ald (x := 55) (t := 0) (A := (4, .inl (a 28))) (v := .int ((a 28) (p1 - 10).toNatClampNeg)) (pc1 := 81) rfl rfl rfl rfl rfl o12a o12b rfl rfl ?_
              exact sx_wp.stop rfl rfl rfl (hP ((a 28) (p1 - 10).toNatClampNeg) _ _ hh)
        ·
          replace hh := hh.2 h4c
          refine w_ki (pc1 := 41) rfl ?_
          refine w_mv (pc1 := 44) (st1 := []) rfl rfl rfl ?_
          refine w_mv (pc1 := 45) (st1 := [.int p1]) rfl rfl rfl ?_
          refine w_mv (pc1 := 47) (st1 := [.int 10, .int p1]) rfl rfl rfl ?_
          refine w_mv (pc1 := 49) (st1 := [.int 13, .int 10, .int p1]) rfl rfl rfl ?_
          refine w_call (M' := sM_111) (vals := [.int p1, .int 10, .int 13]) (rest := []) (lv' := [(0, .int p1), (1, .int 10), (2, .int 13)]) rfl rfl rfl rfl rfl rfl rfl rfl rfl rfl ?_
          refine m_in (fun h13a h13b => ?_) (fun h13c => ?_)
          ·
            replace hh := hh.1 h13a h13b
            refine w_ki (pc1 := 52) rfl ?_
            refine w_mv (pc1 := 57) (st1 := []) rfl rfl rfl ?_
            refine w_mv (pc1 := 58) (st1 := [.ref 33]) rfl rfl rfl ?_
            refine w_mv (pc1 := 61) (st1 := [.int (v 42)]) rfl rfl rfl ?_
            by_cases h14 : (v 42).toInt = 0
            ·
              replace hh := hh.2 h14
              refine w_zne_F (pc1 := 64) rfl (by decide) rfl (show (v 42).toInt = 0 from h14) ?_
              refine w_mv (pc1 := 65) (st1 := [.int 0]) rfl rfl rfl ?_
              exact sx_wp.stop rfl rfl rfl (hP 0 _ _ hh)
            ·
              replace hh := hh.1 h14
              refine w_zne_T (pc1 := 66) rfl rfl (show (v 42).toInt ≠ 0 from h14) ?_
              refine w_mv (pc1 := 67) (st1 := [.int p1]) rfl rfl rfl ?_
              refine w_mv (pc1 := 69) (st1 := [.int 9, .int p1]) rfl rfl rfl ?_
              by_cases h15 : p1.toInt ≤ 9
              ·
                replace hh := hh.1 h15
                refine w_ile_T (pc1 := 82) rfl rfl (show p1.toInt ≤ 9 from h15) ?_
                refine w_mv (pc1 := 83) (st1 := [.int p1]) rfl rfl rfl ?_
                refine w_mv (pc1 := 84) (st1 := [.int 3, .int p1]) rfl rfl rfl ?_
                by_cases h16 : p1.toInt = 3
                ·
                  replace hh := hh.2 h16
                  refine w_ine_F (pc1 := 87) rfl (by decide) rfl (show p1.toInt = 3 from h16) ?_
                  refine w_mv (pc1 := 88) (st1 := [.ref 33]) rfl rfl rfl ?_
                  refine w_mv (pc1 := 91) (st1 := [.int (v 39)]) rfl rfl rfl ?_
                  refine w_mv (pc1 := 148) (st1 := [.int (v 39)]) rfl rfl rfl ?_
                  exact sx_wp.stop rfl rfl rfl (hP (v 39) _ _ hh)
                ·
                  replace hh := hh.1 h16
                  refine w_ine_T (pc1 := 94) rfl rfl (show p1.toInt ≠ 3 from h16) ?_
                  refine w_mv (pc1 := 95) (st1 := [.int p1]) rfl rfl rfl ?_
                  refine w_mv (pc1 := 96) (st1 := [.int 4, .int p1]) rfl rfl rfl ?_
                  by_cases h17 : p1.toInt = 4
                  ·
                    replace hh := hh.2 h17
                    refine w_ine_F (pc1 := 99) rfl (by decide) rfl (show p1.toInt = 4 from h17) ?_
                    refine w_mv (pc1 := 100) (st1 := [.ref 33]) rfl rfl rfl ?_
                    refine w_call (M' := sM_131) (vals := [.ref 33]) (rest := []) (lv' := [(0, .ref 33)]) rfl rfl rfl rfl rfl rfl rfl rfl rfl rfl ?_
                    refine w_mv (pc1 := 1) (st1 := [.ref 33]) rfl rfl rfl ?_
                    refine w_mv (pc1 := 4) (st1 := [.ref 55]) rfl rfl rfl ?_
                    refine w_mv (pc1 := 5) (st1 := [.int 0, .ref 55]) rfl rfl rfl ?_
                    refine w_mv (pc1 := 6) (st1 := [.int ((a 28) 0)]) rfl rfl rfl ?_
                    refine w_mv (pc1 := 7) (st1 := [.ref 33, .int ((a 28) 0)]) rfl rfl rfl ?_
                    refine w_mv (pc1 := 10) (st1 := [.ref 55, .int ((a 28) 0)]) rfl rfl rfl ?_
                    refine w_mv (pc1 := 11) (st1 := [.int 1, .ref 55, .int ((a 28) 0)]) rfl rfl rfl ?_
                    refine w_mv (pc1 := 12) (st1 := [.int ((a 28) 1), .int ((a 28) 0)]) rfl rfl rfl ?_
                    refine w_mv (pc1 := 13) (st1 := [.int (((a 28) 0) + ((a 28) 1))]) rfl rfl rfl ?_
                    refine w_mv (pc1 := 14) (st1 := [.ref 33, .int (((a 28) 0) + ((a 28) 1))]) rfl rfl rfl ?_
                    refine w_mv (pc1 := 17) (st1 := [.ref 55, .int (((a 28) 0) + ((a 28) 1))]) rfl rfl rfl ?_
                    refine w_mv (pc1 := 18) (st1 := [.int 2, .ref 55, .int (((a 28) 0) + ((a 28) 1))]) rfl rfl rfl ?_
                    refine w_mv (pc1 := 19) (st1 := [.int ((a 28) 2), .int (((a 28) 0) + ((a 28) 1))]) rfl rfl rfl ?_
                    refine w_mv (pc1 := 20) (st1 := [.int ((((a 28) 0) + ((a 28) 1)) + ((a 28) 2))]) rfl rfl rfl ?_
                    refine w_mv (pc1 := 21) (st1 := [.ref 33, .int ((((a 28) 0) + ((a 28) 1)) + ((a 28) 2))]) rfl rfl rfl ?_
                    refine w_mv (pc1 := 24) (st1 := [.ref 55, .int ((((a 28) 0) + ((a 28) 1)) + ((a 28) 2))]) rfl rfl rfl ?_
                    refine w_mv (pc1 := 25) (st1 := [.int 3, .ref 55, .int ((((a 28) 0) + ((a 28) 1)) + ((a 28) 2))]) rfl rfl rfl ?_
                    refine w_mv (pc1 := 26) (st1 := [.int ((a 28) 3), .int ((((a 28) 0) + ((a 28) 1)) + ((a 28) 2))]) rfl rfl rfl ?_
                    refine w_mv (pc1 := 27) (st1 := [.int (((((a 28) 0) + ((a 28) 1)) + ((a 28) 2)) + ((a 28) 3))]) rfl rfl rfl ?_
                    refine w_iret (pc1 := 103) rfl rfl rfl rfl ?_
                    refine w_mv (pc1 := 148) (st1 := [.int (((((a 28) 0) + ((a 28) 1)) + ((a 28) 2)) + ((a 28) 3))]) rfl rfl rfl ?_
                    exact sx_wp.stop rfl rfl rfl (hP (((((a 28) 0) + ((a 28) 1)) + ((a 28) 2)) + ((a 28) 3)) _ _ hh)
                  ·
                    replace hh := hh.1 h17
                    refine w_ine_T (pc1 := 106) rfl rfl (show p1.toInt ≠ 4 from h17) ?_
                    refine w_mv (pc1 := 107) (st1 := [.int p1]) rfl rfl rfl ?_
                    refine w_mv (pc1 := 108) (st1 := [.int 5, .int p1]) rfl rfl rfl ?_
                    by_cases h18 : p1.toInt = 5
                    ·
                      replace hh := hh.2 h18
                      refine w_ine_F (pc1 := 111) rfl (by decide) rfl (show p1.toInt = 5 from h18) ?_
                      refine w_mv (pc1 := 112) (st1 := [.ref 33]) rfl rfl rfl ?_
                      refine w_mv (pc1 := 115) (st1 := [.int (v 40)]) rfl rfl rfl ?_
                      refine w_mv (pc1 := 148) (st1 := [.int (v 40)]) rfl rfl rfl ?_
                      exact sx_wp.stop rfl rfl rfl (hP (v 40) _ _ hh)
                    ·
                      replace hh := hh.1 h18
                      refine w_ine_T (pc1 := 118) rfl rfl (show p1.toInt ≠ 5 from h18) ?_
                      refine w_mv (pc1 := 119) (st1 := [.int p1]) rfl rfl rfl ?_
                      refine w_mv (pc1 := 121) (st1 := [.int 6, .int p1]) rfl rfl rfl ?_
                      by_cases h19 : p1.toInt = 6
                      ·
                        replace hh := hh.2 h19
                        refine w_ine_F (pc1 := 124) rfl (by decide) rfl (show p1.toInt = 6 from h19) ?_
                        refine w_mv (pc1 := 125) (st1 := [.ref 33]) rfl rfl rfl ?_
                        refine w_mv (pc1 := 128) (st1 := [.int (v 38)]) rfl rfl rfl ?_
                        refine w_mv (pc1 := 148) (st1 := [.int (v 38)]) rfl rfl rfl ?_
                        exact sx_wp.stop rfl rfl rfl (hP (v 38) _ _ hh)
                      ·
                        replace hh := hh.1 h19
                        refine w_ine_T (pc1 := 131) rfl rfl (show p1.toInt ≠ 6 from h19) ?_
                        refine w_mv (pc1 := 132) (st1 := [.int p1]) rfl rfl rfl ?_
                        refine w_mv (pc1 := 134) (st1 := [.int 7, .int p1]) rfl rfl rfl ?_
                        by_cases h20 : p1.toInt = 7
                        ·
                          replace hh := hh.2 h20
                          refine w_ine_F (pc1 := 137) rfl (by decide) rfl (show p1.toInt = 7 from h20) ?_
                          refine w_mv (pc1 := 138) (st1 := [.ref 33]) rfl rfl rfl ?_
                          refine w_mv (pc1 := 141) (st1 := [.int (v 41)]) rfl rfl rfl ?_
                          refine w_mv (pc1 := 148) (st1 := [.int (v 41)]) rfl rfl rfl ?_
                          exact sx_wp.stop rfl rfl rfl (hP (v 41) _ _ hh)
                        ·
                          replace hh := hh.1 h20
                          refine w_ine_T (pc1 := 144) rfl rfl (show p1.toInt ≠ 7 from h20) ?_
                          refine w_mv (pc1 := 145) (st1 := [.ref 33]) rfl rfl rfl ?_
                          refine w_mv (pc1 := 148) (st1 := [.int (v 42)]) rfl rfl rfl ?_
                          exact sx_wp.stop rfl rfl rfl (hP (v 42) _ _ hh)
              ·
                replace hh := hh.2 (Int.not_le.mp h15)
                refine w_ile_F (pc1 := 72) rfl (by decide) rfl (show 9 < p1.toInt from (Int.not_le.mp h15)) ?_
                refine w_mv (pc1 := 73) (st1 := [.ref 33]) rfl rfl rfl ?_
                refine w_mv (pc1 := 76) (st1 := [.ref 55]) rfl rfl rfl ?_
                refine w_mv (pc1 := 77) (st1 := [.int p1, .ref 55]) rfl rfl rfl ?_
                refine w_mv (pc1 := 79) (st1 := [.int 10, .int p1, .ref 55]) rfl rfl rfl ?_
                refine w_mv (pc1 := 80) (st1 := [.int (p1 - 10), .ref 55]) rfl rfl rfl ?_
                obtain ⟨o21a, o21b, hh⟩ := hh
                refine w_ald (x := 55) (t := 0) (A := (4, .inl (a 28))) (v := .int ((a 28) (p1 - 10).toNatClampNeg)) (pc1 := 81) rfl rfl rfl rfl rfl o21a o21b rfl rfl ?_
                exact sx_wp.stop rfl rfl rfl (hP ((a 28) (p1 - 10).toNatClampNeg) _ _ hh)
          ·
            replace hh := hh.2 h13c
            refine w_ki (pc1 := 52) rfl ?_
            refine w_mv (pc1 := 55) (st1 := []) rfl rfl rfl ?_
            refine w_mv (pc1 := 56) (st1 := [.int (-1)]) rfl rfl rfl ?_
            exact sx_wp.stop rfl rfl rfl (hP (-1) _ _ hh)
