/-! ONE ROUND OF readTerm'S LOOP (by program: wip/sx/gen_m.py) -/
theorem i32_succ {x : Int32} (h0 : 0 ≤ x.toInt) (h1 : x.toInt ≤ 1000000) : (x + 1).toInt = x.toInt + 1 := by
  rw [Int32.toInt_add, show (1 : Int32).toInt = 1 from by decide]
  exact Int.bmod_eq_of_le (by omega) (by omega)
theorem i32_pred {x : Int32} (h0 : -1000000 ≤ x.toInt) (h1 : x.toInt ≤ 1000000) : (x + (-1)).toInt = x.toInt - 1 := by
  rw [Int32.toInt_add, show (-1 : Int32).toInt = -1 from by decide]
  exact Int.bmod_eq_of_le (by omega) (by omega)
set_option maxRecDepth 20000 in
set_option maxHeartbeats 4000000 in
theorem m_rtW0 {A : Nat → sx_C} {B : List sx_C} {v : Nat → Int32} {a : Nat → Nat → Int32} {d dc ds : Nat} {P : Option Value ⊕ Nat → sx_H → Nat → Nat → Prop} {dd : Int32} (h0 : 0 ≤ (v 10).toInt) (h8 : (v 7).toInt ≤ 48) (hd1 : 1 ≤ dd.toInt) (hd5 : dd.toInt ≤ 5) (hx : (v 10).toInt ≤ 48) (hR : ((m_lk v a).toInt < 97 ∨ 122 < (m_lk v a).toInt) → ((m_lk v a).toInt < 65 ∨ 90 < (m_lk v a).toInt) → ((m_lk v a).toInt < 48 ∨ 57 < (m_lk v a).toInt) → P (.inl (some (.int 0))) (mH A B v a) dc ds) (h5 : 97 ≤ (m_lk v a).toInt → (m_lk v a).toInt ≤ 122 → (m_lk (va_up v 10 (v 10 + 1)) a).toInt = 40 → dd.toInt = 5 → P (.inl (some (.int 0))) (mH A B (va_up v 10 (v 10 + 1)) a) dc ds) (hP : 97 ≤ (m_lk v a).toInt → (m_lk v a).toInt ≤ 122 → (m_lk (va_up v 10 (v 10 + 1)) a).toInt = 40 → dd.toInt ≠ 5 → s_wp (d + 2) sM_116 4 [(0, .ref 33), (1, .int 0), (2, .int (dd + 1)), (3, .int 1)] [] (mH A B (va_up v 10 (v 10 + 1 + 1)) (va_up a 4 (upd (a 4) (dd + 1).toNatClampNeg 1))) dc ds P) (hO1 : 97 ≤ (m_lk v a).toInt → (m_lk v a).toInt ≤ 122 → (m_lk (va_up v 10 (v 10 + 1)) a).toInt ≠ 40 → s_wp (d + 2) sM_116 4 [(0, .ref 33), (1, .int 0), (2, .int dd), (3, .int 0)] [] (mH A B (va_up v 10 (v 10 + 1)) a) dc ds P) (hO2 : 65 ≤ (m_lk v a).toInt → (m_lk v a).toInt ≤ 90 → s_wp (d + 2) sM_116 4 [(0, .ref 33), (1, .int 0), (2, .int dd), (3, .int 0)] [] (mH A B (va_up v 10 (v 10 + 1)) a) dc ds P) (hO3 : 48 ≤ (m_lk v a).toInt → (m_lk v a).toInt ≤ 57 → ((m_lk (va_up v 10 (v 10 + 1)) a).toInt < 48 ∨ 57 < (m_lk (va_up v 10 (v 10 + 1)) a).toInt) → s_wp (d + 2) sM_116 4 [(0, .ref 33), (1, .int 0), (2, .int dd), (3, .int 0)] [] (mH A B (va_up v 10 (v 10 + 1)) a) dc ds P) (hD : 48 ≤ (m_lk v a).toInt → (m_lk v a).toInt ≤ 57 → 48 ≤ (m_lk (va_up v 10 (v 10 + 1)) a).toInt → (m_lk (va_up v 10 (v 10 + 1)) a).toInt ≤ 57 → s_wp (d + 2) sM_116 4 [(0, .ref 33), (1, .int 0), (2, .int dd), (3, .int 0)] [] (mH A B (va_up v 10 (v 10 + 1 + 1)) a) dc ds P) : s_wp (d + 2) sM_116 4 [(0, .ref 33), (1, .int 0), (2, .int dd), (3, .int 1)] [] (mH A B v a) dc ds P := by
  refine w_mv (pc1 := 5) (st1 := [.int dd]) rfl rfl rfl ?_
  refine w_zle_F (pc1 := 8) rfl (by decide) rfl (show 0 < dd.toInt by omega) ?_
  refine w_mv (pc1 := 9) (st1 := [.int 1]) rfl rfl rfl ?_
  refine w_mv (pc1 := 12) (st1 := []) rfl rfl rfl ?_
  refine w_mv (pc1 := 13) (st1 := [.ref 33]) rfl rfl rfl ?_
  refine w_call (M' := sM_117) (vals := [.ref 33]) (rest := []) (lv' := [(0, .ref 33)]) rfl rfl rfl rfl rfl rfl rfl rfl rfl rfl ?_
  refine m_look (by omega) (show (v 7).toInt ≤ 48 by omega) ?_
  refine w_ki (pc1 := 16) rfl ?_
  refine w_mv (pc1 := 18) (lv1 := [(4, .int (m_lk v a)), (0, .ref 33), (1, .int 0), (2, .int dd), (3, .int 1)]) (st1 := []) rfl rfl rfl ?_
  refine w_mv (pc1 := 20) (st1 := [.int (m_lk v a)]) rfl rfl rfl ?_
  refine w_mv (pc1 := 22) (st1 := [.int 97, .int (m_lk v a)]) rfl rfl rfl ?_
  refine w_mv (pc1 := 24) (st1 := [.int 122, .int 97, .int (m_lk v a)]) rfl rfl rfl ?_
  refine w_call (M' := sM_111) (vals := [.int (m_lk v a), .int 97, .int 122]) (rest := []) (lv' := [(0, .int (m_lk v a)), (1, .int 97), (2, .int 122)]) rfl rfl rfl rfl rfl rfl rfl rfl rfl rfl ?_
  refine m_in (fun h1a h1b => ?_) (fun h1c => ?_)
  ·
    have h1a : 97 ≤ (m_lk v a).toInt := h1a
    have h1b : (m_lk v a).toInt ≤ 122 := h1b
    refine w_ki (pc1 := 27) rfl ?_
    refine w_mv (pc1 := 29) (lv1 := [(5, .int 1), (4, .int (m_lk v a)), (0, .ref 33), (1, .int 0), (2, .int dd), (3, .int 1)]) (st1 := []) rfl rfl rfl ?_
    refine w_mv (pc1 := 31) (st1 := [.int 1]) rfl rfl rfl ?_
    refine w_mv (pc1 := 69) (st1 := []) rfl rfl rfl ?_
    refine w_mv (pc1 := 70) (st1 := [.ref 33]) rfl rfl rfl ?_
    refine w_mv (pc1 := 71) (st1 := [.ref 33, .ref 33]) rfl rfl rfl ?_
    refine w_mv (pc1 := 74) (st1 := [.int (v 10), .ref 33]) rfl rfl rfl ?_
    refine w_mv (pc1 := 75) (st1 := [.int 1, .int (v 10), .ref 33]) rfl rfl rfl ?_
    refine w_mv (pc1 := 76) (st1 := [.int (v 10 + 1), .ref 33]) rfl rfl rfl ?_
    have e1 : (v 10 + 1).toInt = (v 10).toInt + 1 := i32_succ h0 (by omega)
    refine w_st (pc1 := 79) (st1 := []) (hs1 := mH A B (va_up v 10 (v 10 + 1)) a) (dc1 := 0) (ds1 := 0) (dc2 := dc) (ds2 := ds) rfl rfl rfl rfl rfl ?_
    refine w_mv (pc1 := 81) (st1 := [.int (m_lk v a)]) rfl rfl rfl ?_
    refine w_mv (pc1 := 83) (st1 := [.int 48, .int (m_lk v a)]) rfl rfl rfl ?_
    refine w_mv (pc1 := 85) (st1 := [.int 57, .int 48, .int (m_lk v a)]) rfl rfl rfl ?_
    refine w_call (M' := sM_111) (vals := [.int (m_lk v a), .int 48, .int 57]) (rest := []) (lv' := [(0, .int (m_lk v a)), (1, .int 48), (2, .int 57)]) rfl rfl rfl rfl rfl rfl rfl rfl rfl rfl ?_
    refine m_in (fun h2a h2b => ?_) (fun h2c => ?_)
    ·
      have h2a : 48 ≤ (m_lk v a).toInt := h2a
      have h2b : (m_lk v a).toInt ≤ 57 := h2b
      exfalso
      omega
    ·
      have h2c : (m_lk v a).toInt < 48 ∨ 57 < (m_lk v a).toInt := h2c
      refine w_ki (pc1 := 88) rfl ?_
      refine w_mv (pc1 := 115) (st1 := []) rfl rfl rfl ?_
      refine w_mv (pc1 := 116) (st1 := [.int 0]) rfl rfl rfl ?_
      refine w_mv (pc1 := 117) (lv1 := [(3, .int 0), (5, .int 1), (4, .int (m_lk v a)), (0, .ref 33), (1, .int 0), (2, .int dd)]) (st1 := []) rfl rfl rfl ?_
      refine w_mv (pc1 := 119) (st1 := [.int 1]) rfl rfl rfl ?_
      refine w_mv (pc1 := 122) (st1 := []) rfl rfl rfl ?_
      refine w_mv (pc1 := 123) (st1 := [.ref 33]) rfl rfl rfl ?_
      refine w_call (M' := sM_117) (vals := [.ref 33]) (rest := []) (lv' := [(0, .ref 33)]) rfl rfl rfl rfl rfl rfl rfl rfl rfl rfl ?_
      refine m_look (show 0 ≤ (v 10 + 1).toInt by omega) (show (v 7).toInt ≤ 48 by omega) ?_
      refine w_ki (pc1 := 126) rfl ?_
      refine w_mv (pc1 := 128) (st1 := [.int 40, .int (m_lk (va_up v 10 (v 10 + 1)) a)]) rfl rfl rfl ?_
      by_cases h3 : (m_lk (va_up v 10 (v 10 + 1)) a).toInt ≠ 40
      ·
        refine w_ine_T (pc1 := 160) rfl rfl (show (m_lk (va_up v 10 (v 10 + 1)) a).toInt ≠ 40 by omega) ?_
        refine w_mv (pc1 := 4) (st1 := []) rfl rfl rfl ?_
        refine w_wk (l1 := [(0, .ref 33), (1, .int 0), (2, .int dd), (3, .int 0)]) rfl ⟨rfl, rfl, rfl, rfl, trivial⟩ ?_
        exact hO1 (by first | assumption | omega) (by first | assumption | omega) (by first | assumption | omega)
      ·
        refine w_ine_F (pc1 := 131) rfl (by decide) rfl (show (m_lk (va_up v 10 (v 10 + 1)) a).toInt = 40 by omega) ?_
        refine w_mv (pc1 := 132) (st1 := [.int dd]) rfl rfl rfl ?_
        refine w_mv (pc1 := 133) (st1 := [.int 5, .int dd]) rfl rfl rfl ?_
        by_cases h4 : dd.toInt ≠ 5
        ·
          refine w_ine_T (pc1 := 138) rfl rfl (show dd.toInt ≠ 5 by omega) ?_
          refine w_mv (pc1 := 139) (st1 := [.ref 33]) rfl rfl rfl ?_
          refine w_mv (pc1 := 140) (st1 := [.ref 33, .ref 33]) rfl rfl rfl ?_
          refine w_mv (pc1 := 143) (st1 := [.int (v 10 + 1), .ref 33]) rfl rfl rfl ?_
          refine w_mv (pc1 := 144) (st1 := [.int 1, .int (v 10 + 1), .ref 33]) rfl rfl rfl ?_
          refine w_mv (pc1 := 145) (st1 := [.int (v 10 + 1 + 1), .ref 33]) rfl rfl rfl ?_
          refine w_st (pc1 := 148) (st1 := []) (hs1 := mH A B (va_up v 10 (v 10 + 1 + 1)) a) (dc1 := 0) (ds1 := 0) (dc2 := dc) (ds2 := ds) rfl rfl rfl rfl rfl ?_
          refine w_mv (pc1 := 151) (lv1 := [(2, .int (dd + 1)), (3, .int 0), (5, .int 1), (4, .int (m_lk v a)), (0, .ref 33), (1, .int 0)]) (st1 := []) rfl rfl rfl ?_
          have e2 : (dd + 1).toInt = dd.toInt + 1 := i32_succ (by omega) (by omega)
          refine w_mv (pc1 := 152) (st1 := [.ref 33]) rfl rfl rfl ?_
          refine w_mv (pc1 := 155) (st1 := [.ref 38]) rfl rfl rfl ?_
          refine w_mv (pc1 := 156) (st1 := [.int (dd + 1), .ref 38]) rfl rfl rfl ?_
          refine w_mv (pc1 := 157) (st1 := [.int 1, .int (dd + 1), .ref 38]) rfl rfl rfl ?_
          refine w_ast (x := 38) (t := 0) (n := 8) (f := (a 4)) (ty := .int) (nw := fun x => x) (pc1 := 158) (hs1 := mH A B (va_up v 10 (v 10 + 1 + 1)) (va_up a 4 (upd (a 4) (dd + 1).toNatClampNeg 1))) rfl rfl rfl rfl rfl rfl (show 0 ≤ (dd + 1).toInt by omega) (show (dd + 1).toInt < 8 by omega) rfl rfl ?_
          refine w_mv (pc1 := 159) (st1 := [.int 1]) rfl rfl rfl ?_
          refine w_mv (pc1 := 160) (lv1 := [(3, .int 1), (2, .int (dd + 1)), (5, .int 1), (4, .int (m_lk v a)), (0, .ref 33), (1, .int 0)]) (st1 := []) rfl rfl rfl ?_
          refine w_mv (pc1 := 4) (st1 := []) rfl rfl rfl ?_
          refine w_wk (l1 := [(0, .ref 33), (1, .int 0), (2, .int (dd + 1)), (3, .int 1)]) rfl ⟨rfl, rfl, rfl, rfl, trivial⟩ ?_
          exact hP (by first | assumption | omega) (by first | assumption | omega) (by first | assumption | omega) (by first | assumption | omega)
        ·
          refine w_ine_F (pc1 := 136) rfl (by decide) rfl (show dd.toInt = 5 by omega) ?_
          refine w_mv (pc1 := 137) (st1 := [.int 0]) rfl rfl rfl ?_
          exact sx_wp.stop rfl rfl rfl (h5 (by first | assumption | omega) (by first | assumption | omega) (by first | assumption | omega) (by first | assumption | omega))
  ·
    have h1c : (m_lk v a).toInt < 97 ∨ 122 < (m_lk v a).toInt := h1c
    refine w_ki (pc1 := 27) rfl ?_
    refine w_mv (pc1 := 29) (lv1 := [(5, .int 0), (4, .int (m_lk v a)), (0, .ref 33), (1, .int 0), (2, .int dd), (3, .int 1)]) (st1 := []) rfl rfl rfl ?_
    refine w_mv (pc1 := 31) (st1 := [.int 0]) rfl rfl rfl ?_
    refine w_mv (pc1 := 34) (st1 := []) rfl rfl rfl ?_
    refine w_mv (pc1 := 35) (st1 := [.int 0]) rfl rfl rfl ?_
    refine w_mv (pc1 := 43) (st1 := []) rfl rfl rfl ?_
    refine w_mv (pc1 := 45) (st1 := [.int (m_lk v a)]) rfl rfl rfl ?_
    refine w_mv (pc1 := 47) (st1 := [.int 65, .int (m_lk v a)]) rfl rfl rfl ?_
    refine w_mv (pc1 := 49) (st1 := [.int 90, .int 65, .int (m_lk v a)]) rfl rfl rfl ?_
    refine w_call (M' := sM_111) (vals := [.int (m_lk v a), .int 65, .int 90]) (rest := []) (lv' := [(0, .int (m_lk v a)), (1, .int 65), (2, .int 90)]) rfl rfl rfl rfl rfl rfl rfl rfl rfl rfl ?_
    refine m_in (fun h5a h5b => ?_) (fun h5c => ?_)
    ·
      have h5a : 65 ≤ (m_lk v a).toInt := h5a
      have h5b : (m_lk v a).toInt ≤ 90 := h5b
      refine w_ki (pc1 := 52) rfl ?_
      refine w_mv (pc1 := 69) (st1 := []) rfl rfl rfl ?_
      refine w_mv (pc1 := 70) (st1 := [.ref 33]) rfl rfl rfl ?_
      refine w_mv (pc1 := 71) (st1 := [.ref 33, .ref 33]) rfl rfl rfl ?_
      refine w_mv (pc1 := 74) (st1 := [.int (v 10), .ref 33]) rfl rfl rfl ?_
      refine w_mv (pc1 := 75) (st1 := [.int 1, .int (v 10), .ref 33]) rfl rfl rfl ?_
      refine w_mv (pc1 := 76) (st1 := [.int (v 10 + 1), .ref 33]) rfl rfl rfl ?_
      have e1 : (v 10 + 1).toInt = (v 10).toInt + 1 := i32_succ h0 (by omega)
      refine w_st (pc1 := 79) (st1 := []) (hs1 := mH A B (va_up v 10 (v 10 + 1)) a) (dc1 := 0) (ds1 := 0) (dc2 := dc) (ds2 := ds) rfl rfl rfl rfl rfl ?_
      refine w_mv (pc1 := 81) (st1 := [.int (m_lk v a)]) rfl rfl rfl ?_
      refine w_mv (pc1 := 83) (st1 := [.int 48, .int (m_lk v a)]) rfl rfl rfl ?_
      refine w_mv (pc1 := 85) (st1 := [.int 57, .int 48, .int (m_lk v a)]) rfl rfl rfl ?_
      refine w_call (M' := sM_111) (vals := [.int (m_lk v a), .int 48, .int 57]) (rest := []) (lv' := [(0, .int (m_lk v a)), (1, .int 48), (2, .int 57)]) rfl rfl rfl rfl rfl rfl rfl rfl rfl rfl ?_
      refine m_in (fun h6a h6b => ?_) (fun h6c => ?_)
      ·
        have h6a : 48 ≤ (m_lk v a).toInt := h6a
        have h6b : (m_lk v a).toInt ≤ 57 := h6b
        exfalso
        omega
      ·
        have h6c : (m_lk v a).toInt < 48 ∨ 57 < (m_lk v a).toInt := h6c
        refine w_ki (pc1 := 88) rfl ?_
        refine w_mv (pc1 := 115) (st1 := []) rfl rfl rfl ?_
        refine w_mv (pc1 := 116) (st1 := [.int 0]) rfl rfl rfl ?_
        refine w_mv (pc1 := 117) (lv1 := [(3, .int 0), (5, .int 0), (4, .int (m_lk v a)), (0, .ref 33), (1, .int 0), (2, .int dd)]) (st1 := []) rfl rfl rfl ?_
        refine w_mv (pc1 := 119) (st1 := [.int 0]) rfl rfl rfl ?_
        refine w_mv (pc1 := 160) (st1 := []) rfl rfl rfl ?_
        refine w_mv (pc1 := 4) (st1 := []) rfl rfl rfl ?_
        refine w_wk (l1 := [(0, .ref 33), (1, .int 0), (2, .int dd), (3, .int 0)]) rfl ⟨rfl, rfl, rfl, rfl, trivial⟩ ?_
        exact hO2 (by first | assumption | omega) (by first | assumption | omega)
    ·
      have h5c : (m_lk v a).toInt < 65 ∨ 90 < (m_lk v a).toInt := h5c
      refine w_ki (pc1 := 52) rfl ?_
      refine w_mv (pc1 := 55) (st1 := []) rfl rfl rfl ?_
      refine w_mv (pc1 := 57) (st1 := [.int (m_lk v a)]) rfl rfl rfl ?_
      refine w_mv (pc1 := 59) (st1 := [.int 48, .int (m_lk v a)]) rfl rfl rfl ?_
      refine w_mv (pc1 := 61) (st1 := [.int 57, .int 48, .int (m_lk v a)]) rfl rfl rfl ?_
      refine w_call (M' := sM_111) (vals := [.int (m_lk v a), .int 48, .int 57]) (rest := []) (lv' := [(0, .int (m_lk v a)), (1, .int 48), (2, .int 57)]) rfl rfl rfl rfl rfl rfl rfl rfl rfl rfl ?_
      refine m_in (fun h7a h7b => ?_) (fun h7c => ?_)
      ·
        have h7a : 48 ≤ (m_lk v a).toInt := h7a
        have h7b : (m_lk v a).toInt ≤ 57 := h7b
        refine w_ki (pc1 := 64) rfl ?_
        refine w_mv (pc1 := 69) (st1 := []) rfl rfl rfl ?_
        refine w_mv (pc1 := 70) (st1 := [.ref 33]) rfl rfl rfl ?_
        refine w_mv (pc1 := 71) (st1 := [.ref 33, .ref 33]) rfl rfl rfl ?_
        refine w_mv (pc1 := 74) (st1 := [.int (v 10), .ref 33]) rfl rfl rfl ?_
        refine w_mv (pc1 := 75) (st1 := [.int 1, .int (v 10), .ref 33]) rfl rfl rfl ?_
        refine w_mv (pc1 := 76) (st1 := [.int (v 10 + 1), .ref 33]) rfl rfl rfl ?_
        have e1 : (v 10 + 1).toInt = (v 10).toInt + 1 := i32_succ h0 (by omega)
        refine w_st (pc1 := 79) (st1 := []) (hs1 := mH A B (va_up v 10 (v 10 + 1)) a) (dc1 := 0) (ds1 := 0) (dc2 := dc) (ds2 := ds) rfl rfl rfl rfl rfl ?_
        refine w_mv (pc1 := 81) (st1 := [.int (m_lk v a)]) rfl rfl rfl ?_
        refine w_mv (pc1 := 83) (st1 := [.int 48, .int (m_lk v a)]) rfl rfl rfl ?_
        refine w_mv (pc1 := 85) (st1 := [.int 57, .int 48, .int (m_lk v a)]) rfl rfl rfl ?_
        refine w_call (M' := sM_111) (vals := [.int (m_lk v a), .int 48, .int 57]) (rest := []) (lv' := [(0, .int (m_lk v a)), (1, .int 48), (2, .int 57)]) rfl rfl rfl rfl rfl rfl rfl rfl rfl rfl ?_
        refine m_in (fun h8a h8b => ?_) (fun h8c => ?_)
        ·
          have h8a : 48 ≤ (m_lk v a).toInt := h8a
          have h8b : (m_lk v a).toInt ≤ 57 := h8b
          refine w_ki (pc1 := 88) rfl ?_
          refine w_mv (pc1 := 91) (st1 := []) rfl rfl rfl ?_
          refine w_mv (pc1 := 92) (st1 := [.ref 33]) rfl rfl rfl ?_
          refine w_call (M' := sM_117) (vals := [.ref 33]) (rest := []) (lv' := [(0, .ref 33)]) rfl rfl rfl rfl rfl rfl rfl rfl rfl rfl ?_
          refine m_look (show 0 ≤ (v 10 + 1).toInt by omega) (show (v 7).toInt ≤ 48 by omega) ?_
          refine w_ki (pc1 := 95) rfl ?_
          refine w_mv (pc1 := 97) (st1 := [.int 48, .int (m_lk (va_up v 10 (v 10 + 1)) a)]) rfl rfl rfl ?_
          refine w_mv (pc1 := 99) (st1 := [.int 57, .int 48, .int (m_lk (va_up v 10 (v 10 + 1)) a)]) rfl rfl rfl ?_
          refine w_call (M' := sM_111) (vals := [.int (m_lk (va_up v 10 (v 10 + 1)) a), .int 48, .int 57]) (rest := []) (lv' := [(0, .int (m_lk (va_up v 10 (v 10 + 1)) a)), (1, .int 48), (2, .int 57)]) rfl rfl rfl rfl rfl rfl rfl rfl rfl rfl ?_
          refine m_in (fun h9a h9b => ?_) (fun h9c => ?_)
          ·
            have h9a : 48 ≤ (m_lk (va_up v 10 (v 10 + 1)) a).toInt := h9a
            have h9b : (m_lk (va_up v 10 (v 10 + 1)) a).toInt ≤ 57 := h9b
            refine w_ki (pc1 := 102) rfl ?_
            refine w_mv (pc1 := 105) (st1 := []) rfl rfl rfl ?_
            refine w_mv (pc1 := 106) (st1 := [.ref 33]) rfl rfl rfl ?_
            refine w_mv (pc1 := 107) (st1 := [.ref 33, .ref 33]) rfl rfl rfl ?_
            refine w_mv (pc1 := 110) (st1 := [.int (v 10 + 1), .ref 33]) rfl rfl rfl ?_
            refine w_mv (pc1 := 111) (st1 := [.int 1, .int (v 10 + 1), .ref 33]) rfl rfl rfl ?_
            refine w_mv (pc1 := 112) (st1 := [.int (v 10 + 1 + 1), .ref 33]) rfl rfl rfl ?_
            refine w_st (pc1 := 115) (st1 := []) (hs1 := mH A B (va_up v 10 (v 10 + 1 + 1)) a) (dc1 := 0) (ds1 := 0) (dc2 := dc) (ds2 := ds) rfl rfl rfl rfl rfl ?_
            refine w_mv (pc1 := 116) (st1 := [.int 0]) rfl rfl rfl ?_
            refine w_mv (pc1 := 117) (lv1 := [(3, .int 0), (5, .int 0), (4, .int (m_lk v a)), (0, .ref 33), (1, .int 0), (2, .int dd)]) (st1 := []) rfl rfl rfl ?_
            refine w_mv (pc1 := 119) (st1 := [.int 0]) rfl rfl rfl ?_
            refine w_mv (pc1 := 160) (st1 := []) rfl rfl rfl ?_
            refine w_mv (pc1 := 4) (st1 := []) rfl rfl rfl ?_
            refine w_wk (l1 := [(0, .ref 33), (1, .int 0), (2, .int dd), (3, .int 0)]) rfl ⟨rfl, rfl, rfl, rfl, trivial⟩ ?_
            exact hD (by first | assumption | omega) (by first | assumption | omega) (by first | assumption | omega) (by first | assumption | omega)
          ·
            have h9c : (m_lk (va_up v 10 (v 10 + 1)) a).toInt < 48 ∨ 57 < (m_lk (va_up v 10 (v 10 + 1)) a).toInt := h9c
            refine w_ki (pc1 := 102) rfl ?_
            refine w_mv (pc1 := 115) (st1 := []) rfl rfl rfl ?_
            refine w_mv (pc1 := 116) (st1 := [.int 0]) rfl rfl rfl ?_
            refine w_mv (pc1 := 117) (lv1 := [(3, .int 0), (5, .int 0), (4, .int (m_lk v a)), (0, .ref 33), (1, .int 0), (2, .int dd)]) (st1 := []) rfl rfl rfl ?_
            refine w_mv (pc1 := 119) (st1 := [.int 0]) rfl rfl rfl ?_
            refine w_mv (pc1 := 160) (st1 := []) rfl rfl rfl ?_
            refine w_mv (pc1 := 4) (st1 := []) rfl rfl rfl ?_
            refine w_wk (l1 := [(0, .ref 33), (1, .int 0), (2, .int dd), (3, .int 0)]) rfl ⟨rfl, rfl, rfl, rfl, trivial⟩ ?_
            exact hO3 (by first | assumption | omega) (by first | assumption | omega) (by first | assumption | omega)
        ·
          have h8c : (m_lk v a).toInt < 48 ∨ 57 < (m_lk v a).toInt := h8c
          exfalso
          omega
      ·
        have h7c : (m_lk v a).toInt < 48 ∨ 57 < (m_lk v a).toInt := h7c
        refine w_ki (pc1 := 64) rfl ?_
        refine w_mv (pc1 := 67) (st1 := []) rfl rfl rfl ?_
        refine w_mv (pc1 := 68) (st1 := [.int 0]) rfl rfl rfl ?_
        exact sx_wp.stop rfl rfl rfl (hR (by first | assumption | omega) (by first | assumption | omega) (by first | assumption | omega))
set_option maxRecDepth 20000 in
set_option maxHeartbeats 4000000 in
theorem m_rtW1 {A : Nat → sx_C} {B : List sx_C} {v : Nat → Int32} {a : Nat → Nat → Int32} {d dc ds : Nat} {P : Option Value ⊕ Nat → sx_H → Nat → Nat → Prop} {dd : Int32} (h0 : 0 ≤ (v 10).toInt) (h8 : (v 7).toInt ≤ 48) (hd1 : 1 ≤ dd.toInt) (hd5 : dd.toInt ≤ 5) (hx : (v 10).toInt ≤ 48) (hR : ((m_lk v a).toInt < 97 ∨ 122 < (m_lk v a).toInt) → ((m_lk v a).toInt < 65 ∨ 90 < (m_lk v a).toInt) → ((m_lk v a).toInt < 48 ∨ 57 < (m_lk v a).toInt) → P (.inl (some (.int 0))) (mH A B v a) dc ds) (hR1 : ((m_lk v a).toInt < 97 ∨ 122 < (m_lk v a).toInt) → dd.toInt = 1 → P (.inl (some (.int 0))) (mH A B v a) dc ds) (h5 : 97 ≤ (m_lk v a).toInt → (m_lk v a).toInt ≤ 122 → (m_lk (va_up v 10 (v 10 + 1)) a).toInt = 40 → dd.toInt = 5 → P (.inl (some (.int 0))) (mH A B (va_up v 10 (v 10 + 1)) a) dc ds) (hP : 97 ≤ (m_lk v a).toInt → (m_lk v a).toInt ≤ 122 → (m_lk (va_up v 10 (v 10 + 1)) a).toInt = 40 → dd.toInt ≠ 5 → s_wp (d + 2) sM_116 4 [(0, .ref 33), (1, .int 1), (2, .int (dd + 1)), (3, .int 1)] [] (mH A B (va_up v 10 (v 10 + 1 + 1)) (va_up a 4 (upd (a 4) (dd + 1).toNatClampNeg 1))) dc ds P) (hO1 : 97 ≤ (m_lk v a).toInt → (m_lk v a).toInt ≤ 122 → (m_lk (va_up v 10 (v 10 + 1)) a).toInt ≠ 40 → s_wp (d + 2) sM_116 4 [(0, .ref 33), (1, .int 1), (2, .int dd), (3, .int 0)] [] (mH A B (va_up v 10 (v 10 + 1)) a) dc ds P) (hO2 : dd.toInt ≠ 1 → 65 ≤ (m_lk v a).toInt → (m_lk v a).toInt ≤ 90 → s_wp (d + 2) sM_116 4 [(0, .ref 33), (1, .int 1), (2, .int dd), (3, .int 0)] [] (mH A B (va_up v 10 (v 10 + 1)) a) dc ds P) (hO3 : dd.toInt ≠ 1 → 48 ≤ (m_lk v a).toInt → (m_lk v a).toInt ≤ 57 → ((m_lk (va_up v 10 (v 10 + 1)) a).toInt < 48 ∨ 57 < (m_lk (va_up v 10 (v 10 + 1)) a).toInt) → s_wp (d + 2) sM_116 4 [(0, .ref 33), (1, .int 1), (2, .int dd), (3, .int 0)] [] (mH A B (va_up v 10 (v 10 + 1)) a) dc ds P) (hD : dd.toInt ≠ 1 → 48 ≤ (m_lk v a).toInt → (m_lk v a).toInt ≤ 57 → 48 ≤ (m_lk (va_up v 10 (v 10 + 1)) a).toInt → (m_lk (va_up v 10 (v 10 + 1)) a).toInt ≤ 57 → s_wp (d + 2) sM_116 4 [(0, .ref 33), (1, .int 1), (2, .int dd), (3, .int 0)] [] (mH A B (va_up v 10 (v 10 + 1 + 1)) a) dc ds P) : s_wp (d + 2) sM_116 4 [(0, .ref 33), (1, .int 1), (2, .int dd), (3, .int 1)] [] (mH A B v a) dc ds P := by
  refine w_mv (pc1 := 5) (st1 := [.int dd]) rfl rfl rfl ?_
  refine w_zle_F (pc1 := 8) rfl (by decide) rfl (show 0 < dd.toInt by omega) ?_
  refine w_mv (pc1 := 9) (st1 := [.int 1]) rfl rfl rfl ?_
  refine w_mv (pc1 := 12) (st1 := []) rfl rfl rfl ?_
  refine w_mv (pc1 := 13) (st1 := [.ref 33]) rfl rfl rfl ?_
  refine w_call (M' := sM_117) (vals := [.ref 33]) (rest := []) (lv' := [(0, .ref 33)]) rfl rfl rfl rfl rfl rfl rfl rfl rfl rfl ?_
  refine m_look (by omega) (show (v 7).toInt ≤ 48 by omega) ?_
  refine w_ki (pc1 := 16) rfl ?_
  refine w_mv (pc1 := 18) (lv1 := [(4, .int (m_lk v a)), (0, .ref 33), (1, .int 1), (2, .int dd), (3, .int 1)]) (st1 := []) rfl rfl rfl ?_
  refine w_mv (pc1 := 20) (st1 := [.int (m_lk v a)]) rfl rfl rfl ?_
  refine w_mv (pc1 := 22) (st1 := [.int 97, .int (m_lk v a)]) rfl rfl rfl ?_
  refine w_mv (pc1 := 24) (st1 := [.int 122, .int 97, .int (m_lk v a)]) rfl rfl rfl ?_
  refine w_call (M' := sM_111) (vals := [.int (m_lk v a), .int 97, .int 122]) (rest := []) (lv' := [(0, .int (m_lk v a)), (1, .int 97), (2, .int 122)]) rfl rfl rfl rfl rfl rfl rfl rfl rfl rfl ?_
  refine m_in (fun h1a h1b => ?_) (fun h1c => ?_)
  ·
    have h1a : 97 ≤ (m_lk v a).toInt := h1a
    have h1b : (m_lk v a).toInt ≤ 122 := h1b
    refine w_ki (pc1 := 27) rfl ?_
    refine w_mv (pc1 := 29) (lv1 := [(5, .int 1), (4, .int (m_lk v a)), (0, .ref 33), (1, .int 1), (2, .int dd), (3, .int 1)]) (st1 := []) rfl rfl rfl ?_
    refine w_mv (pc1 := 31) (st1 := [.int 1]) rfl rfl rfl ?_
    refine w_mv (pc1 := 69) (st1 := []) rfl rfl rfl ?_
    refine w_mv (pc1 := 70) (st1 := [.ref 33]) rfl rfl rfl ?_
    refine w_mv (pc1 := 71) (st1 := [.ref 33, .ref 33]) rfl rfl rfl ?_
    refine w_mv (pc1 := 74) (st1 := [.int (v 10), .ref 33]) rfl rfl rfl ?_
    refine w_mv (pc1 := 75) (st1 := [.int 1, .int (v 10), .ref 33]) rfl rfl rfl ?_
    refine w_mv (pc1 := 76) (st1 := [.int (v 10 + 1), .ref 33]) rfl rfl rfl ?_
    have e1 : (v 10 + 1).toInt = (v 10).toInt + 1 := i32_succ h0 (by omega)
    refine w_st (pc1 := 79) (st1 := []) (hs1 := mH A B (va_up v 10 (v 10 + 1)) a) (dc1 := 0) (ds1 := 0) (dc2 := dc) (ds2 := ds) rfl rfl rfl rfl rfl ?_
    refine w_mv (pc1 := 81) (st1 := [.int (m_lk v a)]) rfl rfl rfl ?_
    refine w_mv (pc1 := 83) (st1 := [.int 48, .int (m_lk v a)]) rfl rfl rfl ?_
    refine w_mv (pc1 := 85) (st1 := [.int 57, .int 48, .int (m_lk v a)]) rfl rfl rfl ?_
    refine w_call (M' := sM_111) (vals := [.int (m_lk v a), .int 48, .int 57]) (rest := []) (lv' := [(0, .int (m_lk v a)), (1, .int 48), (2, .int 57)]) rfl rfl rfl rfl rfl rfl rfl rfl rfl rfl ?_
    refine m_in (fun h2a h2b => ?_) (fun h2c => ?_)
    ·
      have h2a : 48 ≤ (m_lk v a).toInt := h2a
      have h2b : (m_lk v a).toInt ≤ 57 := h2b
      exfalso
      omega
    ·
      have h2c : (m_lk v a).toInt < 48 ∨ 57 < (m_lk v a).toInt := h2c
      refine w_ki (pc1 := 88) rfl ?_
      refine w_mv (pc1 := 115) (st1 := []) rfl rfl rfl ?_
      refine w_mv (pc1 := 116) (st1 := [.int 0]) rfl rfl rfl ?_
      refine w_mv (pc1 := 117) (lv1 := [(3, .int 0), (5, .int 1), (4, .int (m_lk v a)), (0, .ref 33), (1, .int 1), (2, .int dd)]) (st1 := []) rfl rfl rfl ?_
      refine w_mv (pc1 := 119) (st1 := [.int 1]) rfl rfl rfl ?_
      refine w_mv (pc1 := 122) (st1 := []) rfl rfl rfl ?_
      refine w_mv (pc1 := 123) (st1 := [.ref 33]) rfl rfl rfl ?_
      refine w_call (M' := sM_117) (vals := [.ref 33]) (rest := []) (lv' := [(0, .ref 33)]) rfl rfl rfl rfl rfl rfl rfl rfl rfl rfl ?_
      refine m_look (show 0 ≤ (v 10 + 1).toInt by omega) (show (v 7).toInt ≤ 48 by omega) ?_
      refine w_ki (pc1 := 126) rfl ?_
      refine w_mv (pc1 := 128) (st1 := [.int 40, .int (m_lk (va_up v 10 (v 10 + 1)) a)]) rfl rfl rfl ?_
      by_cases h3 : (m_lk (va_up v 10 (v 10 + 1)) a).toInt ≠ 40
      ·
        refine w_ine_T (pc1 := 160) rfl rfl (show (m_lk (va_up v 10 (v 10 + 1)) a).toInt ≠ 40 by omega) ?_
        refine w_mv (pc1 := 4) (st1 := []) rfl rfl rfl ?_
        refine w_wk (l1 := [(0, .ref 33), (1, .int 1), (2, .int dd), (3, .int 0)]) rfl ⟨rfl, rfl, rfl, rfl, trivial⟩ ?_
        exact hO1 (by first | assumption | omega) (by first | assumption | omega) (by first | assumption | omega)
      ·
        refine w_ine_F (pc1 := 131) rfl (by decide) rfl (show (m_lk (va_up v 10 (v 10 + 1)) a).toInt = 40 by omega) ?_
        refine w_mv (pc1 := 132) (st1 := [.int dd]) rfl rfl rfl ?_
        refine w_mv (pc1 := 133) (st1 := [.int 5, .int dd]) rfl rfl rfl ?_
        by_cases h4 : dd.toInt ≠ 5
        ·
          refine w_ine_T (pc1 := 138) rfl rfl (show dd.toInt ≠ 5 by omega) ?_
          refine w_mv (pc1 := 139) (st1 := [.ref 33]) rfl rfl rfl ?_
          refine w_mv (pc1 := 140) (st1 := [.ref 33, .ref 33]) rfl rfl rfl ?_
          refine w_mv (pc1 := 143) (st1 := [.int (v 10 + 1), .ref 33]) rfl rfl rfl ?_
          refine w_mv (pc1 := 144) (st1 := [.int 1, .int (v 10 + 1), .ref 33]) rfl rfl rfl ?_
          refine w_mv (pc1 := 145) (st1 := [.int (v 10 + 1 + 1), .ref 33]) rfl rfl rfl ?_
          refine w_st (pc1 := 148) (st1 := []) (hs1 := mH A B (va_up v 10 (v 10 + 1 + 1)) a) (dc1 := 0) (ds1 := 0) (dc2 := dc) (ds2 := ds) rfl rfl rfl rfl rfl ?_
          refine w_mv (pc1 := 151) (lv1 := [(2, .int (dd + 1)), (3, .int 0), (5, .int 1), (4, .int (m_lk v a)), (0, .ref 33), (1, .int 1)]) (st1 := []) rfl rfl rfl ?_
          have e2 : (dd + 1).toInt = dd.toInt + 1 := i32_succ (by omega) (by omega)
          refine w_mv (pc1 := 152) (st1 := [.ref 33]) rfl rfl rfl ?_
          refine w_mv (pc1 := 155) (st1 := [.ref 38]) rfl rfl rfl ?_
          refine w_mv (pc1 := 156) (st1 := [.int (dd + 1), .ref 38]) rfl rfl rfl ?_
          refine w_mv (pc1 := 157) (st1 := [.int 1, .int (dd + 1), .ref 38]) rfl rfl rfl ?_
          refine w_ast (x := 38) (t := 0) (n := 8) (f := (a 4)) (ty := .int) (nw := fun x => x) (pc1 := 158) (hs1 := mH A B (va_up v 10 (v 10 + 1 + 1)) (va_up a 4 (upd (a 4) (dd + 1).toNatClampNeg 1))) rfl rfl rfl rfl rfl rfl (show 0 ≤ (dd + 1).toInt by omega) (show (dd + 1).toInt < 8 by omega) rfl rfl ?_
          refine w_mv (pc1 := 159) (st1 := [.int 1]) rfl rfl rfl ?_
          refine w_mv (pc1 := 160) (lv1 := [(3, .int 1), (2, .int (dd + 1)), (5, .int 1), (4, .int (m_lk v a)), (0, .ref 33), (1, .int 1)]) (st1 := []) rfl rfl rfl ?_
          refine w_mv (pc1 := 4) (st1 := []) rfl rfl rfl ?_
          refine w_wk (l1 := [(0, .ref 33), (1, .int 1), (2, .int (dd + 1)), (3, .int 1)]) rfl ⟨rfl, rfl, rfl, rfl, trivial⟩ ?_
          exact hP (by first | assumption | omega) (by first | assumption | omega) (by first | assumption | omega) (by first | assumption | omega)
        ·
          refine w_ine_F (pc1 := 136) rfl (by decide) rfl (show dd.toInt = 5 by omega) ?_
          refine w_mv (pc1 := 137) (st1 := [.int 0]) rfl rfl rfl ?_
          exact sx_wp.stop rfl rfl rfl (h5 (by first | assumption | omega) (by first | assumption | omega) (by first | assumption | omega) (by first | assumption | omega))
  ·
    have h1c : (m_lk v a).toInt < 97 ∨ 122 < (m_lk v a).toInt := h1c
    refine w_ki (pc1 := 27) rfl ?_
    refine w_mv (pc1 := 29) (lv1 := [(5, .int 0), (4, .int (m_lk v a)), (0, .ref 33), (1, .int 1), (2, .int dd), (3, .int 1)]) (st1 := []) rfl rfl rfl ?_
    refine w_mv (pc1 := 31) (st1 := [.int 0]) rfl rfl rfl ?_
    refine w_mv (pc1 := 34) (st1 := []) rfl rfl rfl ?_
    refine w_mv (pc1 := 35) (st1 := [.int 1]) rfl rfl rfl ?_
    refine w_mv (pc1 := 38) (st1 := []) rfl rfl rfl ?_
    refine w_mv (pc1 := 39) (st1 := [.int dd]) rfl rfl rfl ?_
    refine w_mv (pc1 := 40) (st1 := [.int 1, .int dd]) rfl rfl rfl ?_
    by_cases h5 : dd.toInt = 1
    ·
      refine w_ieq_T (pc1 := 67) rfl rfl (show dd.toInt = 1 by omega) ?_
      refine w_mv (pc1 := 68) (st1 := [.int 0]) rfl rfl rfl ?_
      exact sx_wp.stop rfl rfl rfl (hR1 (by first | assumption | omega) (by first | assumption | omega))
    ·
      refine w_ieq_F (pc1 := 43) rfl (by decide) rfl (show dd.toInt ≠ 1 by omega) ?_
      refine w_mv (pc1 := 45) (st1 := [.int (m_lk v a)]) rfl rfl rfl ?_
      refine w_mv (pc1 := 47) (st1 := [.int 65, .int (m_lk v a)]) rfl rfl rfl ?_
      refine w_mv (pc1 := 49) (st1 := [.int 90, .int 65, .int (m_lk v a)]) rfl rfl rfl ?_
      refine w_call (M' := sM_111) (vals := [.int (m_lk v a), .int 65, .int 90]) (rest := []) (lv' := [(0, .int (m_lk v a)), (1, .int 65), (2, .int 90)]) rfl rfl rfl rfl rfl rfl rfl rfl rfl rfl ?_
      refine m_in (fun h6a h6b => ?_) (fun h6c => ?_)
      ·
        have h6a : 65 ≤ (m_lk v a).toInt := h6a
        have h6b : (m_lk v a).toInt ≤ 90 := h6b
        refine w_ki (pc1 := 52) rfl ?_
        refine w_mv (pc1 := 69) (st1 := []) rfl rfl rfl ?_
        refine w_mv (pc1 := 70) (st1 := [.ref 33]) rfl rfl rfl ?_
        refine w_mv (pc1 := 71) (st1 := [.ref 33, .ref 33]) rfl rfl rfl ?_
        refine w_mv (pc1 := 74) (st1 := [.int (v 10), .ref 33]) rfl rfl rfl ?_
        refine w_mv (pc1 := 75) (st1 := [.int 1, .int (v 10), .ref 33]) rfl rfl rfl ?_
        refine w_mv (pc1 := 76) (st1 := [.int (v 10 + 1), .ref 33]) rfl rfl rfl ?_
        have e1 : (v 10 + 1).toInt = (v 10).toInt + 1 := i32_succ h0 (by omega)
        refine w_st (pc1 := 79) (st1 := []) (hs1 := mH A B (va_up v 10 (v 10 + 1)) a) (dc1 := 0) (ds1 := 0) (dc2 := dc) (ds2 := ds) rfl rfl rfl rfl rfl ?_
        refine w_mv (pc1 := 81) (st1 := [.int (m_lk v a)]) rfl rfl rfl ?_
        refine w_mv (pc1 := 83) (st1 := [.int 48, .int (m_lk v a)]) rfl rfl rfl ?_
        refine w_mv (pc1 := 85) (st1 := [.int 57, .int 48, .int (m_lk v a)]) rfl rfl rfl ?_
        refine w_call (M' := sM_111) (vals := [.int (m_lk v a), .int 48, .int 57]) (rest := []) (lv' := [(0, .int (m_lk v a)), (1, .int 48), (2, .int 57)]) rfl rfl rfl rfl rfl rfl rfl rfl rfl rfl ?_
        refine m_in (fun h7a h7b => ?_) (fun h7c => ?_)
        ·
          have h7a : 48 ≤ (m_lk v a).toInt := h7a
          have h7b : (m_lk v a).toInt ≤ 57 := h7b
          exfalso
          omega
        ·
          have h7c : (m_lk v a).toInt < 48 ∨ 57 < (m_lk v a).toInt := h7c
          refine w_ki (pc1 := 88) rfl ?_
          refine w_mv (pc1 := 115) (st1 := []) rfl rfl rfl ?_
          refine w_mv (pc1 := 116) (st1 := [.int 0]) rfl rfl rfl ?_
          refine w_mv (pc1 := 117) (lv1 := [(3, .int 0), (5, .int 0), (4, .int (m_lk v a)), (0, .ref 33), (1, .int 1), (2, .int dd)]) (st1 := []) rfl rfl rfl ?_
          refine w_mv (pc1 := 119) (st1 := [.int 0]) rfl rfl rfl ?_
          refine w_mv (pc1 := 160) (st1 := []) rfl rfl rfl ?_
          refine w_mv (pc1 := 4) (st1 := []) rfl rfl rfl ?_
          refine w_wk (l1 := [(0, .ref 33), (1, .int 1), (2, .int dd), (3, .int 0)]) rfl ⟨rfl, rfl, rfl, rfl, trivial⟩ ?_
          exact hO2 (by first | assumption | omega) (by first | assumption | omega) (by first | assumption | omega)
      ·
        have h6c : (m_lk v a).toInt < 65 ∨ 90 < (m_lk v a).toInt := h6c
        refine w_ki (pc1 := 52) rfl ?_
        refine w_mv (pc1 := 55) (st1 := []) rfl rfl rfl ?_
        refine w_mv (pc1 := 57) (st1 := [.int (m_lk v a)]) rfl rfl rfl ?_
        refine w_mv (pc1 := 59) (st1 := [.int 48, .int (m_lk v a)]) rfl rfl rfl ?_
        refine w_mv (pc1 := 61) (st1 := [.int 57, .int 48, .int (m_lk v a)]) rfl rfl rfl ?_
        refine w_call (M' := sM_111) (vals := [.int (m_lk v a), .int 48, .int 57]) (rest := []) (lv' := [(0, .int (m_lk v a)), (1, .int 48), (2, .int 57)]) rfl rfl rfl rfl rfl rfl rfl rfl rfl rfl ?_
        refine m_in (fun h8a h8b => ?_) (fun h8c => ?_)
        ·
          have h8a : 48 ≤ (m_lk v a).toInt := h8a
          have h8b : (m_lk v a).toInt ≤ 57 := h8b
          refine w_ki (pc1 := 64) rfl ?_
          refine w_mv (pc1 := 69) (st1 := []) rfl rfl rfl ?_
          refine w_mv (pc1 := 70) (st1 := [.ref 33]) rfl rfl rfl ?_
          refine w_mv (pc1 := 71) (st1 := [.ref 33, .ref 33]) rfl rfl rfl ?_
          refine w_mv (pc1 := 74) (st1 := [.int (v 10), .ref 33]) rfl rfl rfl ?_
          refine w_mv (pc1 := 75) (st1 := [.int 1, .int (v 10), .ref 33]) rfl rfl rfl ?_
          refine w_mv (pc1 := 76) (st1 := [.int (v 10 + 1), .ref 33]) rfl rfl rfl ?_
          have e1 : (v 10 + 1).toInt = (v 10).toInt + 1 := i32_succ h0 (by omega)
          refine w_st (pc1 := 79) (st1 := []) (hs1 := mH A B (va_up v 10 (v 10 + 1)) a) (dc1 := 0) (ds1 := 0) (dc2 := dc) (ds2 := ds) rfl rfl rfl rfl rfl ?_
          refine w_mv (pc1 := 81) (st1 := [.int (m_lk v a)]) rfl rfl rfl ?_
          refine w_mv (pc1 := 83) (st1 := [.int 48, .int (m_lk v a)]) rfl rfl rfl ?_
          refine w_mv (pc1 := 85) (st1 := [.int 57, .int 48, .int (m_lk v a)]) rfl rfl rfl ?_
          refine w_call (M' := sM_111) (vals := [.int (m_lk v a), .int 48, .int 57]) (rest := []) (lv' := [(0, .int (m_lk v a)), (1, .int 48), (2, .int 57)]) rfl rfl rfl rfl rfl rfl rfl rfl rfl rfl ?_
          refine m_in (fun h9a h9b => ?_) (fun h9c => ?_)
          ·
            have h9a : 48 ≤ (m_lk v a).toInt := h9a
            have h9b : (m_lk v a).toInt ≤ 57 := h9b
            refine w_ki (pc1 := 88) rfl ?_
            refine w_mv (pc1 := 91) (st1 := []) rfl rfl rfl ?_
            refine w_mv (pc1 := 92) (st1 := [.ref 33]) rfl rfl rfl ?_
            refine w_call (M' := sM_117) (vals := [.ref 33]) (rest := []) (lv' := [(0, .ref 33)]) rfl rfl rfl rfl rfl rfl rfl rfl rfl rfl ?_
            refine m_look (show 0 ≤ (v 10 + 1).toInt by omega) (show (v 7).toInt ≤ 48 by omega) ?_
            refine w_ki (pc1 := 95) rfl ?_
            refine w_mv (pc1 := 97) (st1 := [.int 48, .int (m_lk (va_up v 10 (v 10 + 1)) a)]) rfl rfl rfl ?_
            refine w_mv (pc1 := 99) (st1 := [.int 57, .int 48, .int (m_lk (va_up v 10 (v 10 + 1)) a)]) rfl rfl rfl ?_
            refine w_call (M' := sM_111) (vals := [.int (m_lk (va_up v 10 (v 10 + 1)) a), .int 48, .int 57]) (rest := []) (lv' := [(0, .int (m_lk (va_up v 10 (v 10 + 1)) a)), (1, .int 48), (2, .int 57)]) rfl rfl rfl rfl rfl rfl rfl rfl rfl rfl ?_
            refine m_in (fun h10a h10b => ?_) (fun h10c => ?_)
            ·
              have h10a : 48 ≤ (m_lk (va_up v 10 (v 10 + 1)) a).toInt := h10a
              have h10b : (m_lk (va_up v 10 (v 10 + 1)) a).toInt ≤ 57 := h10b
              refine w_ki (pc1 := 102) rfl ?_
              refine w_mv (pc1 := 105) (st1 := []) rfl rfl rfl ?_
              refine w_mv (pc1 := 106) (st1 := [.ref 33]) rfl rfl rfl ?_
              refine w_mv (pc1 := 107) (st1 := [.ref 33, .ref 33]) rfl rfl rfl ?_
              refine w_mv (pc1 := 110) (st1 := [.int (v 10 + 1), .ref 33]) rfl rfl rfl ?_
              refine w_mv (pc1 := 111) (st1 := [.int 1, .int (v 10 + 1), .ref 33]) rfl rfl rfl ?_
              refine w_mv (pc1 := 112) (st1 := [.int (v 10 + 1 + 1), .ref 33]) rfl rfl rfl ?_
              refine w_st (pc1 := 115) (st1 := []) (hs1 := mH A B (va_up v 10 (v 10 + 1 + 1)) a) (dc1 := 0) (ds1 := 0) (dc2 := dc) (ds2 := ds) rfl rfl rfl rfl rfl ?_
              refine w_mv (pc1 := 116) (st1 := [.int 0]) rfl rfl rfl ?_
              refine w_mv (pc1 := 117) (lv1 := [(3, .int 0), (5, .int 0), (4, .int (m_lk v a)), (0, .ref 33), (1, .int 1), (2, .int dd)]) (st1 := []) rfl rfl rfl ?_
              refine w_mv (pc1 := 119) (st1 := [.int 0]) rfl rfl rfl ?_
              refine w_mv (pc1 := 160) (st1 := []) rfl rfl rfl ?_
              refine w_mv (pc1 := 4) (st1 := []) rfl rfl rfl ?_
              refine w_wk (l1 := [(0, .ref 33), (1, .int 1), (2, .int dd), (3, .int 0)]) rfl ⟨rfl, rfl, rfl, rfl, trivial⟩ ?_
              exact hD (by first | assumption | omega) (by first | assumption | omega) (by first | assumption | omega) (by first | assumption | omega) (by first | assumption | omega)
            ·
              have h10c : (m_lk (va_up v 10 (v 10 + 1)) a).toInt < 48 ∨ 57 < (m_lk (va_up v 10 (v 10 + 1)) a).toInt := h10c
              refine w_ki (pc1 := 102) rfl ?_
              refine w_mv (pc1 := 115) (st1 := []) rfl rfl rfl ?_
              refine w_mv (pc1 := 116) (st1 := [.int 0]) rfl rfl rfl ?_
              refine w_mv (pc1 := 117) (lv1 := [(3, .int 0), (5, .int 0), (4, .int (m_lk v a)), (0, .ref 33), (1, .int 1), (2, .int dd)]) (st1 := []) rfl rfl rfl ?_
              refine w_mv (pc1 := 119) (st1 := [.int 0]) rfl rfl rfl ?_
              refine w_mv (pc1 := 160) (st1 := []) rfl rfl rfl ?_
              refine w_mv (pc1 := 4) (st1 := []) rfl rfl rfl ?_
              refine w_wk (l1 := [(0, .ref 33), (1, .int 1), (2, .int dd), (3, .int 0)]) rfl ⟨rfl, rfl, rfl, rfl, trivial⟩ ?_
              exact hO3 (by first | assumption | omega) (by first | assumption | omega) (by first | assumption | omega) (by first | assumption | omega)
          ·
            have h9c : (m_lk v a).toInt < 48 ∨ 57 < (m_lk v a).toInt := h9c
            exfalso
            omega
        ·
          have h8c : (m_lk v a).toInt < 48 ∨ 57 < (m_lk v a).toInt := h8c
          refine w_ki (pc1 := 64) rfl ?_
          refine w_mv (pc1 := 67) (st1 := []) rfl rfl rfl ?_
          refine w_mv (pc1 := 68) (st1 := [.int 0]) rfl rfl rfl ?_
          exact sx_wp.stop rfl rfl rfl (hR (by first | assumption | omega) (by first | assumption | omega) (by first | assumption | omega))
set_option maxRecDepth 20000 in
set_option maxHeartbeats 4000000 in
theorem m_rtC {A : Nat → sx_C} {B : List sx_C} {v : Nat → Int32} {a : Nat → Nat → Int32} {d dc ds : Nat} {P : Option Value ⊕ Nat → sx_H → Nat → Nat → Prop} {dd call : Int32} (h0 : 0 ≤ (v 10).toInt) (h8 : (v 7).toInt ≤ 48) (hd1 : 1 ≤ dd.toInt) (hd5 : dd.toInt ≤ 5) (hx : (v 10).toInt ≤ 48) (hE : dd.toInt = 1 → s_wp (d + 2) sM_116 4 [(0, .ref 33), (1, .int call), (2, .int 0), (3, .int 0)] [] (mH A B v a) dc ds P) (hC : dd.toInt ≠ 1 → (m_lk v a).toInt = 44 → (a 4 dd.toNatClampNeg).toInt < 3 → s_wp (d + 2) sM_116 4 [(0, .ref 33), (1, .int call), (2, .int dd), (3, .int 1)] [] (mH A B (va_up v 10 (v 10 + 1)) (va_up a 4 (upd (a 4) dd.toNatClampNeg (a 4 dd.toNatClampNeg + 1)))) dc ds P) (hB : dd.toInt ≠ 1 → (m_lk v a).toInt = 41 → ((m_lk v a).toInt ≠ 44 ∨ 3 ≤ (a 4 dd.toNatClampNeg).toInt) → s_wp (d + 2) sM_116 4 [(0, .ref 33), (1, .int call), (2, .int (dd + (-1))), (3, .int 0)] [] (mH A B (va_up v 10 (v 10 + 1)) a) dc ds P) (hR : dd.toInt ≠ 1 → (m_lk v a).toInt ≠ 41 → ((m_lk v a).toInt ≠ 44 ∨ 3 ≤ (a 4 dd.toNatClampNeg).toInt) → P (.inl (some (.int 0))) (mH A B v a) dc ds) : s_wp (d + 2) sM_116 4 [(0, .ref 33), (1, .int call), (2, .int dd), (3, .int 0)] [] (mH A B v a) dc ds P := by
  refine w_mv (pc1 := 5) (st1 := [.int dd]) rfl rfl rfl ?_
  refine w_zle_F (pc1 := 8) rfl (by decide) rfl (show 0 < dd.toInt by omega) ?_
  refine w_mv (pc1 := 9) (st1 := [.int 0]) rfl rfl rfl ?_
  refine w_mv (pc1 := 163) (st1 := []) rfl rfl rfl ?_
  refine w_mv (pc1 := 164) (st1 := [.int dd]) rfl rfl rfl ?_
  refine w_mv (pc1 := 165) (st1 := [.int 1, .int dd]) rfl rfl rfl ?_
  by_cases h1 : dd.toInt ≠ 1
  ·
    refine w_ine_T (pc1 := 173) rfl rfl (show dd.toInt ≠ 1 by omega) ?_
    refine w_mv (pc1 := 174) (st1 := [.ref 33]) rfl rfl rfl ?_
    refine w_call (M' := sM_117) (vals := [.ref 33]) (rest := []) (lv' := [(0, .ref 33)]) rfl rfl rfl rfl rfl rfl rfl rfl rfl rfl ?_
    refine m_look (by omega) (show (v 7).toInt ≤ 48 by omega) ?_
    refine w_ki (pc1 := 177) rfl ?_
    refine w_mv (pc1 := 179) (st1 := [.int 44, .int (m_lk v a)]) rfl rfl rfl ?_
    by_cases h2 : (m_lk v a).toInt ≠ 44
    ·
      refine w_ine_T (pc1 := 217) rfl rfl (show (m_lk v a).toInt ≠ 44 by omega) ?_
      refine w_mv (pc1 := 218) (st1 := [.ref 33]) rfl rfl rfl ?_
      refine w_mv (pc1 := 220) (st1 := [.int 41, .ref 33]) rfl rfl rfl ?_
      refine w_call (M' := sM_118) (vals := [.ref 33, .int 41]) (rest := []) (lv' := [(0, .ref 33), (1, .int 41)]) rfl rfl rfl rfl rfl rfl rfl rfl rfl rfl ?_
      refine m_passes (by omega) (show (v 7).toInt ≤ 48 by omega) (fun h3a => ?_) (fun h3b => ?_)
      ·
        have h3a : (m_lk v a).toInt = 41 := h3a
        show s_kont _ _ _ _ _ _ _ _ (mH A B (va_up v 10 (v 10 + 1)) a) _ _
        refine w_ki (pc1 := 223) rfl ?_
        refine w_mv (pc1 := 226) (st1 := []) rfl rfl rfl ?_
        refine w_mv (pc1 := 229) (lv1 := [(2, .int (dd + (-1))), (0, .ref 33), (1, .int call), (3, .int 0)]) (st1 := []) rfl rfl rfl ?_
        refine w_mv (pc1 := 4) (st1 := []) rfl rfl rfl ?_
        refine w_wk (l1 := [(0, .ref 33), (1, .int call), (2, .int (dd + (-1))), (3, .int 0)]) rfl ⟨rfl, rfl, rfl, rfl, trivial⟩ ?_
        exact hB (by omega) (by omega) (by omega)
      ·
        have h3b : (m_lk v a).toInt ≠ 41 := h3b
        refine w_ki (pc1 := 223) rfl ?_
        refine w_mv (pc1 := 232) (st1 := []) rfl rfl rfl ?_
        refine w_mv (pc1 := 233) (st1 := [.int 0]) rfl rfl rfl ?_
        exact sx_wp.stop rfl rfl rfl (hR (by omega) (by omega) (by omega))
    ·
      refine w_ine_F (pc1 := 182) rfl (by decide) rfl (show (m_lk v a).toInt = 44 by omega) ?_
      refine w_mv (pc1 := 183) (st1 := [.ref 33]) rfl rfl rfl ?_
      refine w_mv (pc1 := 186) (st1 := [.ref 38]) rfl rfl rfl ?_
      refine w_mv (pc1 := 187) (st1 := [.int dd, .ref 38]) rfl rfl rfl ?_
      refine w_ald (x := 38) (t := 0) (A := (8, .inl (a 4))) (v := .int ((a 4) dd.toNatClampNeg)) (pc1 := 188) rfl rfl rfl rfl rfl (show 0 ≤ dd.toInt by omega) (show dd.toInt < 8 by omega) rfl rfl ?_
      refine w_mv (pc1 := 189) (st1 := [.int 3, .int ((a 4) dd.toNatClampNeg)]) rfl rfl rfl ?_
      by_cases h4 : 3 ≤ ((a 4) dd.toNatClampNeg).toInt
      ·
        refine w_ige_T (pc1 := 217) rfl rfl (show 3 ≤ ((a 4) dd.toNatClampNeg).toInt by omega) ?_
        refine w_mv (pc1 := 218) (st1 := [.ref 33]) rfl rfl rfl ?_
        refine w_mv (pc1 := 220) (st1 := [.int 41, .ref 33]) rfl rfl rfl ?_
        refine w_call (M' := sM_118) (vals := [.ref 33, .int 41]) (rest := []) (lv' := [(0, .ref 33), (1, .int 41)]) rfl rfl rfl rfl rfl rfl rfl rfl rfl rfl ?_
        refine m_passes (by omega) (show (v 7).toInt ≤ 48 by omega) (fun h5a => ?_) (fun h5b => ?_)
        ·
          have h5a : (m_lk v a).toInt = 41 := h5a
          show s_kont _ _ _ _ _ _ _ _ (mH A B (va_up v 10 (v 10 + 1)) a) _ _
          refine w_ki (pc1 := 223) rfl ?_
          refine w_mv (pc1 := 226) (st1 := []) rfl rfl rfl ?_
          refine w_mv (pc1 := 229) (lv1 := [(2, .int (dd + (-1))), (0, .ref 33), (1, .int call), (3, .int 0)]) (st1 := []) rfl rfl rfl ?_
          refine w_mv (pc1 := 4) (st1 := []) rfl rfl rfl ?_
          refine w_wk (l1 := [(0, .ref 33), (1, .int call), (2, .int (dd + (-1))), (3, .int 0)]) rfl ⟨rfl, rfl, rfl, rfl, trivial⟩ ?_
          exact hB (by omega) (by omega) (by omega)
        ·
          have h5b : (m_lk v a).toInt ≠ 41 := h5b
          refine w_ki (pc1 := 223) rfl ?_
          refine w_mv (pc1 := 232) (st1 := []) rfl rfl rfl ?_
          refine w_mv (pc1 := 233) (st1 := [.int 0]) rfl rfl rfl ?_
          exact sx_wp.stop rfl rfl rfl (hR (by omega) (by omega) (by omega))
      ·
        refine w_ige_F (pc1 := 192) rfl (by decide) rfl (show ((a 4) dd.toNatClampNeg).toInt < 3 by omega) ?_
        refine w_mv (pc1 := 193) (st1 := [.ref 33]) rfl rfl rfl ?_
        refine w_mv (pc1 := 194) (st1 := [.ref 33, .ref 33]) rfl rfl rfl ?_
        refine w_mv (pc1 := 197) (st1 := [.int (v 10), .ref 33]) rfl rfl rfl ?_
        refine w_mv (pc1 := 198) (st1 := [.int 1, .int (v 10), .ref 33]) rfl rfl rfl ?_
        refine w_mv (pc1 := 199) (st1 := [.int (v 10 + 1), .ref 33]) rfl rfl rfl ?_
        have e1 : (v 10 + 1).toInt = (v 10).toInt + 1 := i32_succ h0 (by omega)
        refine w_st (pc1 := 202) (st1 := []) (hs1 := mH A B (va_up v 10 (v 10 + 1)) a) (dc1 := 0) (ds1 := 0) (dc2 := dc) (ds2 := ds) rfl rfl rfl rfl rfl ?_
        refine w_mv (pc1 := 203) (st1 := [.ref 33]) rfl rfl rfl ?_
        refine w_mv (pc1 := 206) (st1 := [.ref 38]) rfl rfl rfl ?_
        refine w_mv (pc1 := 207) (st1 := [.int dd, .ref 38]) rfl rfl rfl ?_
        refine w_mv (pc1 := 208) (st1 := [.int dd, .ref 38, .int dd, .ref 38]) rfl rfl rfl ?_
        refine w_ald (x := 38) (t := 0) (A := (8, .inl (a 4))) (v := .int ((a 4) dd.toNatClampNeg)) (pc1 := 209) rfl rfl rfl rfl rfl (show 0 ≤ dd.toInt by omega) (show dd.toInt < 8 by omega) rfl rfl ?_
        refine w_mv (pc1 := 210) (st1 := [.int 1, .int ((a 4) dd.toNatClampNeg), .int dd, .ref 38]) rfl rfl rfl ?_
        refine w_mv (pc1 := 211) (st1 := [.int (((a 4) dd.toNatClampNeg) + 1), .int dd, .ref 38]) rfl rfl rfl ?_
        refine w_ast (x := 38) (t := 0) (n := 8) (f := (a 4)) (ty := .int) (nw := fun x => x) (pc1 := 212) (hs1 := mH A B (va_up v 10 (v 10 + 1)) (va_up a 4 (upd (a 4) dd.toNatClampNeg (((a 4) dd.toNatClampNeg) + 1)))) rfl rfl rfl rfl rfl rfl (show 0 ≤ dd.toInt by omega) (show dd.toInt < 8 by omega) rfl rfl ?_
        refine w_mv (pc1 := 213) (st1 := [.int 1]) rfl rfl rfl ?_
        refine w_mv (pc1 := 214) (lv1 := [(3, .int 1), (0, .ref 33), (1, .int call), (2, .int dd)]) (st1 := []) rfl rfl rfl ?_
        refine w_mv (pc1 := 4) (st1 := []) rfl rfl rfl ?_
        refine w_wk (l1 := [(0, .ref 33), (1, .int call), (2, .int dd), (3, .int 1)]) rfl ⟨rfl, rfl, rfl, rfl, trivial⟩ ?_
        exact hC (by omega) (by omega) (by omega)
  ·
    refine w_ine_F (pc1 := 168) rfl (by decide) rfl (show dd.toInt = 1 by omega) ?_
    refine w_mv (pc1 := 169) (st1 := [.int 0]) rfl rfl rfl ?_
    refine w_mv (pc1 := 170) (lv1 := [(2, .int 0), (0, .ref 33), (1, .int call), (3, .int 0)]) (st1 := []) rfl rfl rfl ?_
    refine w_mv (pc1 := 4) (st1 := []) rfl rfl rfl ?_
    refine w_wk (l1 := [(0, .ref 33), (1, .int call), (2, .int 0), (3, .int 0)]) rfl ⟨rfl, rfl, rfl, rfl, trivial⟩ ?_
    exact hE (by omega)
