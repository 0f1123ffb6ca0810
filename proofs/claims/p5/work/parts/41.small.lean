/-! SMALL METHODS OF THE REFERENCE (by program: wip/sx/gen_m.py) -/
set_option maxRecDepth 20000 in
set_option maxHeartbeats 4000000 in
theorem m_in {A : Nat → sx_C} {B : List sx_C} {v : Nat → Int32} {a : Nat → Nat → Int32} {d dc ds : Nat} {P : Option Value ⊕ Nat → sx_H → Nat → Nat → Prop} {c lo hi : Int32} (hT : lo.toInt ≤ c.toInt → c.toInt ≤ hi.toInt → P (.inl (some (.int 1))) (mH A B v a) dc ds) (hF : (c.toInt < lo.toInt ∨ hi.toInt < c.toInt) → P (.inl (some (.int 0))) (mH A B v a) dc ds) : s_wp d sM_111 0 [(0, .int c), (1, .int lo), (2, .int hi)] [] (mH A B v a) dc ds P := by
  refine w_mv (pc1 := 1) (st1 := [.int c]) rfl rfl rfl ?_
  refine w_mv (pc1 := 2) (st1 := [.int lo, .int c]) rfl rfl rfl ?_
  by_cases h1 : c.toInt < lo.toInt
  ·
    refine w_ilt_T (pc1 := 14) rfl rfl (show c.toInt < lo.toInt by omega) ?_
    refine w_mv (pc1 := 15) (st1 := [.int 0]) rfl rfl rfl ?_
    exact sx_wp.stop rfl rfl rfl (hF (by omega))
  ·
    refine w_ilt_F (pc1 := 5) rfl (by decide) rfl (show lo.toInt ≤ c.toInt by omega) ?_
    refine w_mv (pc1 := 6) (st1 := [.int c]) rfl rfl rfl ?_
    refine w_mv (pc1 := 7) (st1 := [.int hi, .int c]) rfl rfl rfl ?_
    by_cases h2 : hi.toInt < c.toInt
    ·
      refine w_igt_T (pc1 := 14) rfl rfl (show hi.toInt < c.toInt by omega) ?_
      refine w_mv (pc1 := 15) (st1 := [.int 0]) rfl rfl rfl ?_
      exact sx_wp.stop rfl rfl rfl (hF (by omega))
    ·
      refine w_igt_F (pc1 := 10) rfl (by decide) rfl (show c.toInt ≤ hi.toInt by omega) ?_
      refine w_mv (pc1 := 11) (st1 := [.int 1]) rfl rfl rfl ?_
      refine w_mv (pc1 := 15) (st1 := [.int 1]) rfl rfl rfl ?_
      exact sx_wp.stop rfl rfl rfl (hT (by omega) (by omega))
set_option maxRecDepth 20000 in
set_option maxHeartbeats 4000000 in
theorem m_thrown {A : Nat → sx_C} {B : List sx_C} {v : Nat → Int32} {a : Nat → Nat → Int32} {d dc ds : Nat} {P : Option Value ⊕ Nat → sx_H → Nat → Nat → Prop} (h : P (.inl (some (.int (v 11)))) (mH A B v a) dc ds) : s_wp d sM_109 0 [(0, .ref 33)] [] (mH A B v a) dc ds P := by
  refine w_mv (pc1 := 1) (st1 := [.ref 33]) rfl rfl rfl ?_
  refine w_mv (pc1 := 4) (st1 := [.int (v 11)]) rfl rfl rfl ?_
  exact sx_wp.stop rfl rfl rfl h
set_option maxRecDepth 20000 in
set_option maxHeartbeats 4000000 in
theorem m_fail {A : Nat → sx_C} {B : List sx_C} {v : Nat → Int32} {a : Nat → Nat → Int32} {d dc ds : Nat} {P : Option Value ⊕ Nat → sx_H → Nat → Nat → Prop} {c : Int32} (h : P (.inl (some (.int 0))) (mH A B (va_up v 11 c) a) dc ds) : s_wp d sM_113 0 [(0, .ref 33), (1, .int c)] [] (mH A B v a) dc ds P := by
  refine w_mv (pc1 := 1) (st1 := [.ref 33]) rfl rfl rfl ?_
  refine w_mv (pc1 := 2) (st1 := [.int c, .ref 33]) rfl rfl rfl ?_
  refine w_st (pc1 := 5) (st1 := []) (hs1 := mH A B (va_up v 11 c) a) (dc1 := 0) (ds1 := 0) (dc2 := dc) (ds2 := ds) rfl rfl rfl rfl rfl ?_
  refine w_mv (pc1 := 6) (st1 := [.int 0]) rfl rfl rfl ?_
  exact sx_wp.stop rfl rfl rfl h
set_option maxRecDepth 20000 in
set_option maxHeartbeats 4000000 in
theorem m_bad0 {A : Nat → sx_C} {B : List sx_C} {v : Nat → Int32} {a : Nat → Nat → Int32} {d dc ds : Nat} {P : Option Value ⊕ Nat → sx_H → Nat → Nat → Prop} (h : P (.inl (some (.int 1))) (mH A B (va_up v 11 1) a) dc ds) : s_wp d sM_112 0 [(0, .ref 33), (1, .int 0)] [] (mH A B v a) dc ds P := by
  refine w_mv (pc1 := 1) (st1 := [.ref 33]) rfl rfl rfl ?_
  refine w_mv (pc1 := 2) (st1 := [.int 0, .ref 33]) rfl rfl rfl ?_
  refine w_mv (pc1 := 9) (st1 := [.ref 33]) rfl rfl rfl ?_
  refine w_mv (pc1 := 10) (st1 := [.int 1, .ref 33]) rfl rfl rfl ?_
  refine w_st (pc1 := 13) (st1 := []) (hs1 := mH A B (va_up v 11 1) a) (dc1 := 0) (ds1 := 0) (dc2 := dc) (ds2 := ds) rfl rfl rfl rfl rfl ?_
  refine w_mv (pc1 := 14) (st1 := [.int 0]) rfl rfl rfl ?_
  refine w_mv (pc1 := 17) (st1 := []) rfl rfl rfl ?_
  refine w_mv (pc1 := 18) (st1 := [.int 1]) rfl rfl rfl ?_
  refine w_mv (pc1 := 22) (st1 := [.int 1]) rfl rfl rfl ?_
  exact sx_wp.stop rfl rfl rfl h
set_option maxRecDepth 20000 in
set_option maxHeartbeats 4000000 in
theorem m_bad1 {A : Nat → sx_C} {B : List sx_C} {v : Nat → Int32} {a : Nat → Nat → Int32} {d dc ds : Nat} {P : Option Value ⊕ Nat → sx_H → Nat → Nat → Prop} (h : P (.inl (some (.int 0))) (mH A B (va_up v 11 0) a) dc ds) : s_wp d sM_112 0 [(0, .ref 33), (1, .int 1)] [] (mH A B v a) dc ds P := by
  refine w_mv (pc1 := 1) (st1 := [.ref 33]) rfl rfl rfl ?_
  refine w_mv (pc1 := 2) (st1 := [.int 1, .ref 33]) rfl rfl rfl ?_
  refine w_mv (pc1 := 5) (st1 := [.ref 33]) rfl rfl rfl ?_
  refine w_mv (pc1 := 6) (st1 := [.int 0, .ref 33]) rfl rfl rfl ?_
  refine w_mv (pc1 := 10) (st1 := [.int 0, .ref 33]) rfl rfl rfl ?_
  refine w_st (pc1 := 13) (st1 := []) (hs1 := mH A B (va_up v 11 0) a) (dc1 := 0) (ds1 := 0) (dc2 := dc) (ds2 := ds) rfl rfl rfl rfl rfl ?_
  refine w_mv (pc1 := 14) (st1 := [.int 1]) rfl rfl rfl ?_
  refine w_mv (pc1 := 21) (st1 := []) rfl rfl rfl ?_
  refine w_mv (pc1 := 22) (st1 := [.int 0]) rfl rfl rfl ?_
  exact sx_wp.stop rfl rfl rfl h
def m_lk (v : Nat → Int32) (a : Nat → Nat → Int32) : Int32 := if (v 10).toInt < (v 7).toInt then a 0 (v 10).toNatClampNeg else 0
set_option maxRecDepth 20000 in
set_option maxHeartbeats 4000000 in
theorem m_look {A : Nat → sx_C} {B : List sx_C} {v : Nat → Int32} {a : Nat → Nat → Int32} {d dc ds : Nat} {P : Option Value ⊕ Nat → sx_H → Nat → Nat → Prop} (h0 : 0 ≤ (v 10).toInt) (h8 : (v 7).toInt ≤ 48) (h : P (.inl (some (.int (m_lk v a)))) (mH A B v a) dc ds) : s_wp d sM_117 0 [(0, .ref 33)] [] (mH A B v a) dc ds P := by
  refine w_mv (pc1 := 1) (st1 := [.ref 33]) rfl rfl rfl ?_
  refine w_mv (pc1 := 4) (st1 := [.int (v 10)]) rfl rfl rfl ?_
  refine w_mv (pc1 := 5) (st1 := [.ref 33, .int (v 10)]) rfl rfl rfl ?_
  refine w_mv (pc1 := 8) (st1 := [.int (v 7), .int (v 10)]) rfl rfl rfl ?_
  by_cases h1 : (v 7).toInt ≤ (v 10).toInt
  ·
    refine w_ige_T (pc1 := 23) rfl rfl (show (v 7).toInt ≤ (v 10).toInt by omega) ?_
    refine w_mv (pc1 := 24) (st1 := [.int 0]) rfl rfl rfl ?_
    exact sx_wp.stop rfl rfl rfl (by unfold m_lk at h; rw [if_neg (by omega)] at h; exact h)
  ·
    refine w_ige_F (pc1 := 11) rfl (by decide) rfl (show (v 10).toInt < (v 7).toInt by omega) ?_
    refine w_mv (pc1 := 12) (st1 := [.ref 33]) rfl rfl rfl ?_
    refine w_mv (pc1 := 15) (st1 := [.ref 34]) rfl rfl rfl ?_
    refine w_mv (pc1 := 16) (st1 := [.ref 33, .ref 34]) rfl rfl rfl ?_
    refine w_mv (pc1 := 19) (st1 := [.int (v 10), .ref 34]) rfl rfl rfl ?_
    refine w_ald (x := 34) (t := 0) (A := (48, .inl (a 0))) (v := .int ((a 0) (v 10).toNatClampNeg)) (pc1 := 20) rfl rfl rfl rfl rfl (show 0 ≤ (v 10).toInt by omega) (show (v 10).toInt < 48 by omega) rfl rfl ?_
    refine w_mv (pc1 := 24) (st1 := [.int ((a 0) (v 10).toNatClampNeg)]) rfl rfl rfl ?_
    exact sx_wp.stop rfl rfl rfl (by unfold m_lk at h; rw [if_pos (by omega)] at h; exact h)
set_option maxRecDepth 20000 in
set_option maxHeartbeats 4000000 in
theorem m_passes {A : Nat → sx_C} {B : List sx_C} {v : Nat → Int32} {a : Nat → Nat → Int32} {d dc ds : Nat} {P : Option Value ⊕ Nat → sx_H → Nat → Nat → Prop} {c : Int32} (h0 : 0 ≤ (v 10).toInt) (h8 : (v 7).toInt ≤ 48) (hT : (m_lk v a).toInt = c.toInt → P (.inl (some (.int 1))) (mH A B (va_up v 10 (v 10 + 1)) a) dc ds) (hF : (m_lk v a).toInt ≠ c.toInt → P (.inl (some (.int 0))) (mH A B v a) dc ds) : s_wp (d + 1) sM_118 0 [(0, .ref 33), (1, .int c)] [] (mH A B v a) dc ds P := by
  refine w_mv (pc1 := 1) (st1 := [.ref 33]) rfl rfl rfl ?_
  refine w_call (M' := sM_117) (vals := [.ref 33]) (rest := []) (lv' := [(0, .ref 33)]) rfl rfl rfl rfl rfl rfl rfl rfl rfl rfl ?_
  refine m_look (by omega) (by omega) ?_
  refine w_ki (pc1 := 4) rfl ?_
  refine w_mv (pc1 := 5) (st1 := [.int c, .int (m_lk v a)]) rfl rfl rfl ?_
  by_cases h1 : (m_lk v a).toInt = c.toInt
  ·
    refine w_ieq_T (pc1 := 10) rfl rfl (show (m_lk v a).toInt = c.toInt by omega) ?_
    refine w_mv (pc1 := 11) (st1 := [.ref 33]) rfl rfl rfl ?_
    refine w_mv (pc1 := 12) (st1 := [.ref 33, .ref 33]) rfl rfl rfl ?_
    refine w_mv (pc1 := 15) (st1 := [.int (v 10), .ref 33]) rfl rfl rfl ?_
    refine w_mv (pc1 := 16) (st1 := [.int 1, .int (v 10), .ref 33]) rfl rfl rfl ?_
    refine w_mv (pc1 := 17) (st1 := [.int (v 10 + 1), .ref 33]) rfl rfl rfl ?_
    refine w_st (pc1 := 20) (st1 := []) (hs1 := mH A B (va_up v 10 (v 10 + 1)) a) (dc1 := 0) (ds1 := 0) (dc2 := dc) (ds2 := ds) rfl rfl rfl rfl rfl ?_
    refine w_mv (pc1 := 21) (st1 := [.int 1]) rfl rfl rfl ?_
    exact sx_wp.stop rfl rfl rfl (hT (by omega))
  ·
    refine w_ieq_F (pc1 := 8) rfl (by decide) rfl (show (m_lk v a).toInt ≠ c.toInt by omega) ?_
    refine w_mv (pc1 := 9) (st1 := [.int 0]) rfl rfl rfl ?_
    exact sx_wp.stop rfl rfl rfl (hF (by omega))
