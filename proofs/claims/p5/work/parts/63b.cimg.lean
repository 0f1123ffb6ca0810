/-! THE IMAGES of the class and of the JDK methods that it calls (by program: wip/sx/gen_cimg.py) -/
set_option maxRecDepth 20000 in
set_option maxHeartbeats 4000000 in
theorem k_19_6 {e1 : Int64} {p3 : Int32} {p4 : Int32} {N : Nat} {G : Nat → sx_C} {K : Option Value ⊕ Nat → Nat → (Nat → sx_C) → Nat → Nat → Prop} (hh : ((p4.toInt < 0 → 5 < N ∧ ∃ (i2_1 : Int32), G 5 = .inr (.inl (0, [.ref 6, .int i2_1, .ref 8, .ref 9, .ref 31])) ∧ 6 < N ∧ ∃ (i3_1 : Int32) (i3_2 : Int32), G 6 = .inr (.inl (1, [.ref 7, .int i3_1, .int i3_2])) ∧ (((i3_1 + p3).toInt ≤ 48 → cT (6) sM_19 91 [(0, .ref 5), (1, .long e1), (3, .int p3), (4, .int 56)] [] (N) G (fun r N1 G1 kc1 ks1 => K r N1 G1 (kc1) (ks1))) ∧ (48 < (i3_1 + p3).toInt → K (.inr (N)) (N + 1) (va_up G N (.inr (.inr 1))) (1) (6)))) ∧ (0 ≤ p4.toInt → (((ty_b e1 p4).toInt = 0 → (((ty_b e1 p4).toInt = 0 → cT (6) sM_19 6 [(0, .ref 5), (1, .long e1), (3, .int (p3 + 0)), (4, .int (p4 + (-8)))] [] (N) G (fun r N1 G1 kc1 ks1 => K r N1 G1 (kc1) (ks1))) ∧ ((ty_b e1 p4).toInt ≠ 0 → cT (6) sM_19 6 [(0, .ref 5), (1, .long e1), (3, .int (p3 + 1)), (4, .int (p4 + (-8)))] [] (N) G (fun r N1 G1 kc1 ks1 => K r N1 G1 (kc1) (ks1))))) ∧ ((ty_b e1 p4).toInt ≠ 0 → (((ty_b e1 p4).toInt < 33 → K (.inr (N)) (N + 1) (va_up G N (.inr (.inr 0))) (1) (6)) ∧ (33 ≤ (ty_b e1 p4).toInt → (((ty_b e1 p4).toInt ≤ 126 → (((ty_b e1 p4).toInt = 0 → cT (6) sM_19 6 [(0, .ref 5), (1, .long e1), (3, .int (p3 + 0)), (4, .int (p4 + (-8)))] [] (N) G (fun r N1 G1 kc1 ks1 => K r N1 G1 (kc1) (ks1))) ∧ ((ty_b e1 p4).toInt ≠ 0 → cT (6) sM_19 6 [(0, .ref 5), (1, .long e1), (3, .int (p3 + 1)), (4, .int (p4 + (-8)))] [] (N) G (fun r N1 G1 kc1 ks1 => K r N1 G1 (kc1) (ks1))))) ∧ (126 < (ty_b e1 p4).toInt → K (.inr (N)) (N + 1) (va_up G N (.inr (.inr 0))) (1) (6)))))))))) : cT (6) sM_19 6 [(0, .ref 5), (1, .long e1), (3, .int p3), (4, .int p4)] [] N G K := by
  intro d dc ds P hP
  refine w_mv (pc1 := 8) (st1 := [.int p4]) rfl rfl rfl ?_
  by_cases h1 : p4.toInt < 0
  ·
    replace hh := hh.1 h1
    refine w_zlt_T (pc1 := 65) rfl rfl (show p4.toInt < 0 from h1) ?_
    refine w_mv (pc1 := 66) (st1 := [.ref 5]) rfl rfl rfl ?_
    obtain ⟨b2b, i2_1, g2, hh⟩ := hh
    refine cw_gf (v := .ref 6) (pc1 := 69) rfl (by omega) (by omega) g2 rfl rfl ?_
    obtain ⟨b3b, i3_1, i3_2, g3, hh⟩ := hh
    refine w_call (M' := sM_8) (vals := [.ref 6]) (rest := []) (lv' := [(0, .ref 6)]) rfl rfl rfl rfl rfl rfl (cH_rcv (by omega) (by omega) g3) rfl rfl rfl ?_
    refine w_mv (pc1 := 1) (st1 := [.ref 6]) rfl rfl rfl ?_
    refine cw_gf (v := .int i3_1) (pc1 := 4) rfl (by omega) (by omega) g3 rfl rfl ?_
    refine w_iret (pc1 := 72) rfl rfl rfl rfl ?_
    refine w_mv (pc1 := 73) (st1 := [.int p3, .int i3_1]) rfl rfl rfl ?_
    refine w_mv (pc1 := 74) (st1 := [.int (i3_1 + p3)]) rfl rfl rfl ?_
    refine w_mv (pc1 := 76) (st1 := [.int 48, .int (i3_1 + p3)]) rfl rfl rfl ?_
    by_cases h4 : (i3_1 + p3).toInt ≤ 48
    ·
      replace hh := hh.1 h4
      refine w_ile_T (pc1 := 87) rfl rfl (show (i3_1 + p3).toInt ≤ 48 from h4) ?_
      refine w_mv (pc1 := 89) (st1 := [.int 56]) rfl rfl rfl ?_
      refine w_mv (pc1 := 91) (lv1 := [(4, .int 56), (0, .ref 5), (1, .long e1), (3, .int p3)]) (st1 := []) rfl rfl rfl ?_
      refine w_wk (l1 := [(0, .ref 5), (1, .long e1), (3, .int p3), (4, .int 56)]) rfl ⟨rfl, rfl, rfl, rfl, trivial⟩ ?_
      refine hh d _ _ P (fun r N1 G1 kc1 ks1 q => ?_)
      exact c_acc (hP r N1 G1 _ _ q) (by omega) (by omega)
    ·
      replace hh := hh.2 (Int.not_le.mp h4)
      refine w_ile_F (pc1 := 79) rfl (by decide) rfl (show 48 < (i3_1 + p3).toInt from (Int.not_le.mp h4)) ?_
      refine cw_thr rfl rfl (by omega) (Nat.le_of_ble_eq_true rfl) ?_
      exact c_acc (hP _ _ _ _ _ hh) (by omega) (by omega)
  ·
    replace hh := hh.2 (Int.not_lt.mp h1)
    refine w_zlt_F (pc1 := 11) rfl (by decide) rfl (show 0 ≤ p4.toInt from (Int.not_lt.mp h1)) ?_
    refine w_mv (pc1 := 12) (st1 := [.long e1]) rfl rfl rfl ?_
    refine w_mv (pc1 := 14) (st1 := [.int p4, .long e1]) rfl rfl rfl ?_
    refine w_call (M' := sM_20) (vals := [.long e1, .int p4]) (rest := []) (lv' := [(0, .long e1), (2, .int p4)]) rfl rfl rfl rfl rfl rfl rfl rfl rfl rfl ?_
    refine w_mv (pc1 := 1) (st1 := [.long e1]) rfl rfl rfl ?_
    refine w_mv (pc1 := 2) (st1 := [.int p4, .long e1]) rfl rfl rfl ?_
    refine w_mv (pc1 := 3) (st1 := [.long (UInt64.toInt64 (Int64.toUInt64 e1 >>> (Int64.toUInt64 (Int32.toInt64 p4) &&& Int64.toUInt64 63)))]) rfl rfl rfl ?_
    refine w_mv (pc1 := 4) (st1 := [.int (Int64.toInt32 (UInt64.toInt64 (Int64.toUInt64 e1 >>> (Int64.toUInt64 (Int32.toInt64 p4) &&& Int64.toUInt64 63))))]) rfl rfl rfl ?_
    refine w_mv (pc1 := 7) (st1 := [.int 255, .int (Int64.toInt32 (UInt64.toInt64 (Int64.toUInt64 e1 >>> (Int64.toUInt64 (Int32.toInt64 p4) &&& Int64.toUInt64 63))))]) rfl rfl rfl ?_
    refine w_mv (pc1 := 8) (st1 := [.int (ty_b e1 p4)]) rfl rfl rfl ?_
    refine w_iret (pc1 := 17) rfl rfl rfl rfl ?_
    refine w_mv (pc1 := 19) (lv1 := [(5, .int (ty_b e1 p4)), (0, .ref 5), (1, .long e1), (3, .int p3), (4, .int p4)]) (st1 := []) rfl rfl rfl ?_
    refine w_mv (pc1 := 21) (st1 := [.int (ty_b e1 p4)]) rfl rfl rfl ?_
    by_cases h5 : (ty_b e1 p4).toInt = 0
    ·
      replace hh := hh.1 h5
      refine w_zeq_T (pc1 := 46) rfl rfl (show (ty_b e1 p4).toInt = 0 from h5) ?_
      refine w_mv (pc1 := 47) (st1 := [.int p3]) rfl rfl rfl ?_
      refine w_mv (pc1 := 49) (st1 := [.int (ty_b e1 p4), .int p3]) rfl rfl rfl ?_
      by_cases h6 : (ty_b e1 p4).toInt = 0
      ·
        replace hh := hh.1 h6
        refine w_zeq_T (pc1 := 56) rfl rfl (show (ty_b e1 p4).toInt = 0 from h6) ?_
        refine w_mv (pc1 := 57) (st1 := [.int 0, .int p3]) rfl rfl rfl ?_
        refine w_mv (pc1 := 58) (st1 := [.int (p3 + 0)]) rfl rfl rfl ?_
        refine w_mv (pc1 := 59) (lv1 := [(3, .int (p3 + 0)), (5, .int (ty_b e1 p4)), (0, .ref 5), (1, .long e1), (4, .int p4)]) (st1 := []) rfl rfl rfl ?_
        refine w_mv (pc1 := 62) (lv1 := [(4, .int (p4 + (-8))), (3, .int (p3 + 0)), (5, .int (ty_b e1 p4)), (0, .ref 5), (1, .long e1)]) (st1 := []) rfl rfl rfl ?_
        refine w_mv (pc1 := 6) (st1 := []) rfl rfl rfl ?_
        refine w_wk (l1 := [(0, .ref 5), (1, .long e1), (3, .int (p3 + 0)), (4, .int (p4 + (-8)))]) rfl ⟨rfl, rfl, rfl, rfl, trivial⟩ ?_
        refine hh d _ _ P (fun r N1 G1 kc1 ks1 q => ?_)
        exact c_acc (hP r N1 G1 _ _ q) (by omega) (by omega)
      ·
        replace hh := hh.2 h6
        refine w_zeq_F (pc1 := 52) rfl (by decide) rfl (show (ty_b e1 p4).toInt ≠ 0 from h6) ?_
        refine w_mv (pc1 := 53) (st1 := [.int 1, .int p3]) rfl rfl rfl ?_
        refine w_mv (pc1 := 57) (st1 := [.int 1, .int p3]) rfl rfl rfl ?_
        refine w_mv (pc1 := 58) (st1 := [.int (p3 + 1)]) rfl rfl rfl ?_
        refine w_mv (pc1 := 59) (lv1 := [(3, .int (p3 + 1)), (5, .int (ty_b e1 p4)), (0, .ref 5), (1, .long e1), (4, .int p4)]) (st1 := []) rfl rfl rfl ?_
        refine w_mv (pc1 := 62) (lv1 := [(4, .int (p4 + (-8))), (3, .int (p3 + 1)), (5, .int (ty_b e1 p4)), (0, .ref 5), (1, .long e1)]) (st1 := []) rfl rfl rfl ?_
        refine w_mv (pc1 := 6) (st1 := []) rfl rfl rfl ?_
        refine w_wk (l1 := [(0, .ref 5), (1, .long e1), (3, .int (p3 + 1)), (4, .int (p4 + (-8)))]) rfl ⟨rfl, rfl, rfl, rfl, trivial⟩ ?_
        refine hh d _ _ P (fun r N1 G1 kc1 ks1 q => ?_)
        exact c_acc (hP r N1 G1 _ _ q) (by omega) (by omega)
    ·
      replace hh := hh.2 h5
      refine w_zeq_F (pc1 := 24) rfl (by decide) rfl (show (ty_b e1 p4).toInt ≠ 0 from h5) ?_
      refine w_mv (pc1 := 26) (st1 := [.int (ty_b e1 p4)]) rfl rfl rfl ?_
      refine w_mv (pc1 := 28) (st1 := [.int 33, .int (ty_b e1 p4)]) rfl rfl rfl ?_
      by_cases h7 : (ty_b e1 p4).toInt < 33
      ·
        replace hh := hh.1 h7
        refine w_ilt_T (pc1 := 38) rfl rfl (show (ty_b e1 p4).toInt < 33 from h7) ?_
        refine cw_thr rfl rfl (by omega) (Nat.le_of_ble_eq_true rfl) ?_
        exact c_acc (hP _ _ _ _ _ hh) (by omega) (by omega)
      ·
        replace hh := hh.2 (Int.not_lt.mp h7)
        refine w_ilt_F (pc1 := 31) rfl (by decide) rfl (show 33 ≤ (ty_b e1 p4).toInt from (Int.not_lt.mp h7)) ?_
        refine w_mv (pc1 := 33) (st1 := [.int (ty_b e1 p4)]) rfl rfl rfl ?_
        refine w_mv (pc1 := 35) (st1 := [.int 126, .int (ty_b e1 p4)]) rfl rfl rfl ?_
        by_cases h8 : (ty_b e1 p4).toInt ≤ 126
        ·
          replace hh := hh.1 h8
          refine w_ile_T (pc1 := 46) rfl rfl (show (ty_b e1 p4).toInt ≤ 126 from h8) ?_
          refine w_mv (pc1 := 47) (st1 := [.int p3]) rfl rfl rfl ?_
          refine w_mv (pc1 := 49) (st1 := [.int (ty_b e1 p4), .int p3]) rfl rfl rfl ?_
          by_cases h9 : (ty_b e1 p4).toInt = 0
          ·
            replace hh := hh.1 h9
            refine w_zeq_T (pc1 := 56) rfl rfl (show (ty_b e1 p4).toInt = 0 from h9) ?_
            refine w_mv (pc1 := 57) (st1 := [.int 0, .int p3]) rfl rfl rfl ?_
            refine w_mv (pc1 := 58) (st1 := [.int (p3 + 0)]) rfl rfl rfl ?_
            refine w_mv (pc1 := 59) (lv1 := [(3, .int (p3 + 0)), (5, .int (ty_b e1 p4)), (0, .ref 5), (1, .long e1), (4, .int p4)]) (st1 := []) rfl rfl rfl ?_
            refine w_mv (pc1 := 62) (lv1 := [(4, .int (p4 + (-8))), (3, .int (p3 + 0)), (5, .int (ty_b e1 p4)), (0, .ref 5), (1, .long e1)]) (st1 := []) rfl rfl rfl ?_
            refine w_mv (pc1 := 6) (st1 := []) rfl rfl rfl ?_
            refine w_wk (l1 := [(0, .ref 5), (1, .long e1), (3, .int (p3 + 0)), (4, .int (p4 + (-8)))]) rfl ⟨rfl, rfl, rfl, rfl, trivial⟩ ?_
            refine hh d _ _ P (fun r N1 G1 kc1 ks1 q => ?_)
            exact c_acc (hP r N1 G1 _ _ q) (by omega) (by omega)
          ·
            replace hh := hh.2 h9
            refine w_zeq_F (pc1 := 52) rfl (by decide) rfl (show (ty_b e1 p4).toInt ≠ 0 from h9) ?_
            refine w_mv (pc1 := 53) (st1 := [.int 1, .int p3]) rfl rfl rfl ?_
            refine w_mv (pc1 := 57) (st1 := [.int 1, .int p3]) rfl rfl rfl ?_
            refine w_mv (pc1 := 58) (st1 := [.int (p3 + 1)]) rfl rfl rfl ?_
            refine w_mv (pc1 := 59) (lv1 := [(3, .int (p3 + 1)), (5, .int (ty_b e1 p4)), (0, .ref 5), (1, .long e1), (4, .int p4)]) (st1 := []) rfl rfl rfl ?_
            refine w_mv (pc1 := 62) (lv1 := [(4, .int (p4 + (-8))), (3, .int (p3 + 1)), (5, .int (ty_b e1 p4)), (0, .ref 5), (1, .long e1)]) (st1 := []) rfl rfl rfl ?_
            refine w_mv (pc1 := 6) (st1 := []) rfl rfl rfl ?_
            refine w_wk (l1 := [(0, .ref 5), (1, .long e1), (3, .int (p3 + 1)), (4, .int (p4 + (-8)))]) rfl ⟨rfl, rfl, rfl, rfl, trivial⟩ ?_
            refine hh d _ _ P (fun r N1 G1 kc1 ks1 q => ?_)
            exact c_acc (hP r N1 G1 _ _ q) (by omega) (by omega)
        ·
          replace hh := hh.2 (Int.not_le.mp h8)
          refine w_ile_F (pc1 := 38) rfl (by decide) rfl (show 126 < (ty_b e1 p4).toInt from (Int.not_le.mp h8)) ?_
          refine cw_thr rfl rfl (by omega) (Nat.le_of_ble_eq_true rfl) ?_
          exact c_acc (hP _ _ _ _ _ hh) (by omega) (by omega)
set_option maxRecDepth 20000 in
set_option maxHeartbeats 4000000 in
theorem k_19_91 {e1 : Int64} {p3 : Int32} {p4 : Int32} {N : Nat} {G : Nat → sx_C} {K : Option Value ⊕ Nat → Nat → (Nat → sx_C) → Nat → Nat → Prop} (hh : ((p4.toInt < 0 → 5 < N ∧ ∃ (i2_1 : Int32), G 5 = .inr (.inl (0, [.ref 6, .int i2_1, .ref 8, .ref 9, .ref 31])) ∧ 6 < N ∧ ∃ (i3_1 : Int32) (i3_2 : Int32), G 6 = .inr (.inl (1, [.ref 7, .int i3_1, .int i3_2])) ∧ K (.inl (some (.int i3_1))) (N) G (0) (0)) ∧ (0 ≤ p4.toInt → (((ty_b e1 p4).toInt = 0 → cT (6) sM_19 91 [(0, .ref 5), (1, .long e1), (3, .int p3), (4, .int (p4 + (-8)))] [] (N) G (fun r N1 G1 kc1 ks1 => K r N1 G1 (kc1) (ks1))) ∧ ((ty_b e1 p4).toInt ≠ 0 → 5 < N ∧ ∃ (i5_1 : Int32), G 5 = .inr (.inl (0, [.ref 6, .int i5_1, .ref 8, .ref 9, .ref 31])) ∧ 6 < N ∧ ∃ (i6_1 : Int32) (i6_2 : Int32), G 6 = .inr (.inl (1, [.ref 7, .int i6_1, .int i6_2])) ∧ ((48 ≤ i6_1.toInt → cT (6) sM_19 91 [(0, .ref 5), (1, .long e1), (3, .int p3), (4, .int (p4 + (-8)))] [] (N) G (fun r N1 G1 kc1 ks1 => K r N1 G1 (kc1) (ks1))) ∧ (i6_1.toInt < 48 → 7 < N ∧ ∃ (f8 : Nat → Int32), G 7 = .inl (1, (48, .inl f8)) ∧ 0 ≤ i6_1.toInt ∧ i6_1.toInt < (48 : Nat) ∧ cT (6) sM_19 91 [(0, .ref 5), (1, .long e1), (3, .int p3), (4, .int (p4 + (-8)))] [] (N) (va_up (va_up G 7 (.inl (1, (48, .inl (upd f8 i6_1.toNatClampNeg (vp_nar .byte (Int8.toInt32 (Int32.toInt8 (ty_b e1 p4))))))))) 6 (.inr (.inl (1, [.ref 7, .int (i6_1 + 1), .int i6_2])))) (fun r N1 G1 kc1 ks1 => K r N1 G1 (kc1) (ks1))))))))) : cT (6) sM_19 91 [(0, .ref 5), (1, .long e1), (3, .int p3), (4, .int p4)] [] N G K := by
  intro d dc ds P hP
  refine w_mv (pc1 := 93) (st1 := [.int p4]) rfl rfl rfl ?_
  by_cases h1 : p4.toInt < 0
  ·
    replace hh := hh.1 h1
    refine w_zlt_T (pc1 := 124) rfl rfl (show p4.toInt < 0 from h1) ?_
    refine w_mv (pc1 := 125) (st1 := [.ref 5]) rfl rfl rfl ?_
    obtain ⟨b2b, i2_1, g2, hh⟩ := hh
    refine cw_gf (v := .ref 6) (pc1 := 128) rfl (by omega) (by omega) g2 rfl rfl ?_
    obtain ⟨b3b, i3_1, i3_2, g3, hh⟩ := hh
    refine w_call (M' := sM_8) (vals := [.ref 6]) (rest := []) (lv' := [(0, .ref 6)]) rfl rfl rfl rfl rfl rfl (cH_rcv (by omega) (by omega) g3) rfl rfl rfl ?_
    refine w_mv (pc1 := 1) (st1 := [.ref 6]) rfl rfl rfl ?_
    refine cw_gf (v := .int i3_1) (pc1 := 4) rfl (by omega) (by omega) g3 rfl rfl ?_
    refine w_iret (pc1 := 131) rfl rfl rfl rfl ?_
    refine sx_wp.stop rfl rfl rfl ?_
    exact c_acc (hP _ _ _ _ _ hh) (by omega) (by omega)
  ·
    replace hh := hh.2 (Int.not_lt.mp h1)
    refine w_zlt_F (pc1 := 96) rfl (by decide) rfl (show 0 ≤ p4.toInt from (Int.not_lt.mp h1)) ?_
    refine w_mv (pc1 := 97) (st1 := [.long e1]) rfl rfl rfl ?_
    refine w_mv (pc1 := 99) (st1 := [.int p4, .long e1]) rfl rfl rfl ?_
    refine w_call (M' := sM_20) (vals := [.long e1, .int p4]) (rest := []) (lv' := [(0, .long e1), (2, .int p4)]) rfl rfl rfl rfl rfl rfl rfl rfl rfl rfl ?_
    refine w_mv (pc1 := 1) (st1 := [.long e1]) rfl rfl rfl ?_
    refine w_mv (pc1 := 2) (st1 := [.int p4, .long e1]) rfl rfl rfl ?_
    refine w_mv (pc1 := 3) (st1 := [.long (UInt64.toInt64 (Int64.toUInt64 e1 >>> (Int64.toUInt64 (Int32.toInt64 p4) &&& Int64.toUInt64 63)))]) rfl rfl rfl ?_
    refine w_mv (pc1 := 4) (st1 := [.int (Int64.toInt32 (UInt64.toInt64 (Int64.toUInt64 e1 >>> (Int64.toUInt64 (Int32.toInt64 p4) &&& Int64.toUInt64 63))))]) rfl rfl rfl ?_
    refine w_mv (pc1 := 7) (st1 := [.int 255, .int (Int64.toInt32 (UInt64.toInt64 (Int64.toUInt64 e1 >>> (Int64.toUInt64 (Int32.toInt64 p4) &&& Int64.toUInt64 63))))]) rfl rfl rfl ?_
    refine w_mv (pc1 := 8) (st1 := [.int (ty_b e1 p4)]) rfl rfl rfl ?_
    refine w_iret (pc1 := 102) rfl rfl rfl rfl ?_
    refine w_mv (pc1 := 104) (lv1 := [(5, .int (ty_b e1 p4)), (0, .ref 5), (1, .long e1), (3, .int p3), (4, .int p4)]) (st1 := []) rfl rfl rfl ?_
    refine w_mv (pc1 := 106) (st1 := [.int (ty_b e1 p4)]) rfl rfl rfl ?_
    by_cases h4 : (ty_b e1 p4).toInt = 0
    ·
      replace hh := hh.1 h4
      refine w_zeq_T (pc1 := 118) rfl rfl (show (ty_b e1 p4).toInt = 0 from h4) ?_
      refine w_mv (pc1 := 121) (lv1 := [(4, .int (p4 + (-8))), (5, .int (ty_b e1 p4)), (0, .ref 5), (1, .long e1), (3, .int p3)]) (st1 := []) rfl rfl rfl ?_
      refine w_mv (pc1 := 91) (st1 := []) rfl rfl rfl ?_
      refine w_wk (l1 := [(0, .ref 5), (1, .long e1), (3, .int p3), (4, .int (p4 + (-8)))]) rfl ⟨rfl, rfl, rfl, rfl, trivial⟩ ?_
      refine hh d _ _ P (fun r N1 G1 kc1 ks1 q => ?_)
      exact c_acc (hP r N1 G1 _ _ q) (by omega) (by omega)
    ·
      replace hh := hh.2 h4
      refine w_zeq_F (pc1 := 109) rfl (by decide) rfl (show (ty_b e1 p4).toInt ≠ 0 from h4) ?_
      refine w_mv (pc1 := 110) (st1 := [.ref 5]) rfl rfl rfl ?_
      obtain ⟨b5b, i5_1, g5, hh⟩ := hh
      refine cw_gf (v := .ref 6) (pc1 := 113) rfl (by omega) (by omega) g5 rfl rfl ?_
      refine w_mv (pc1 := 115) (st1 := [.int (ty_b e1 p4), .ref 6]) rfl rfl rfl ?_
      obtain ⟨b6b, i6_1, i6_2, g6, hh⟩ := hh
      refine w_call (M' := sM_21) (vals := [.ref 6, .int (ty_b e1 p4)]) (rest := []) (lv' := [(0, .ref 6), (1, .int (ty_b e1 p4))]) rfl rfl rfl rfl rfl rfl (cH_rcv (by omega) (by omega) g6) rfl rfl rfl ?_
      refine w_mv (pc1 := 1) (st1 := [.ref 6]) rfl rfl rfl ?_
      refine cw_gf (v := .int i6_1) (pc1 := 4) rfl (by omega) (by omega) g6 rfl rfl ?_
      refine w_mv (pc1 := 6) (st1 := [.int 48, .int i6_1]) rfl rfl rfl ?_
      by_cases h7 : 48 ≤ i6_1.toInt
      ·
        replace hh := hh.1 h7
        refine w_ige_T (pc1 := 30) rfl rfl (show 48 ≤ i6_1.toInt from h7) ?_
        refine w_vret (pc1 := 118) rfl rfl rfl ?_
        refine w_mv (pc1 := 121) (lv1 := [(4, .int (p4 + (-8))), (5, .int (ty_b e1 p4)), (0, .ref 5), (1, .long e1), (3, .int p3)]) (st1 := []) rfl rfl rfl ?_
        refine w_mv (pc1 := 91) (st1 := []) rfl rfl rfl ?_
        refine w_wk (l1 := [(0, .ref 5), (1, .long e1), (3, .int p3), (4, .int (p4 + (-8)))]) rfl ⟨rfl, rfl, rfl, rfl, trivial⟩ ?_
        refine hh d _ _ P (fun r N1 G1 kc1 ks1 q => ?_)
        exact c_acc (hP r N1 G1 _ _ q) (by omega) (by omega)
      ·
        replace hh := hh.2 (Int.not_le.mp h7)
        refine w_ige_F (pc1 := 9) rfl (by decide) rfl (show i6_1.toInt < 48 from (Int.not_le.mp h7)) ?_
        refine w_mv (pc1 := 10) (st1 := [.ref 6]) rfl rfl rfl ?_
        refine cw_gf (v := .ref 7) (pc1 := 13) rfl (by omega) (by omega) g6 rfl rfl ?_
        refine w_mv (pc1 := 14) (st1 := [.ref 6, .ref 7]) rfl rfl rfl ?_
        refine cw_gf (v := .int i6_1) (pc1 := 17) rfl (by omega) (by omega) g6 rfl rfl ?_
        refine w_mv (pc1 := 18) (st1 := [.int (ty_b e1 p4), .int i6_1, .ref 7]) rfl rfl rfl ?_
        refine w_mv (pc1 := 19) (st1 := [.int (Int8.toInt32 (Int32.toInt8 (ty_b e1 p4))), .int i6_1, .ref 7]) rfl rfl rfl ?_
        obtain ⟨b8b, f8, g8, hh⟩ := hh
        obtain ⟨q9a, q9b, hh⟩ := hh
        refine cw_bst (pc1 := 20) rfl (by omega) (by omega) g8 q9a q9b rfl ?_
        have g10 : (va_up G 7 (.inl (1, (48, .inl (upd f8 i6_1.toNatClampNeg (vp_nar .byte (Int8.toInt32 (Int32.toInt8 (ty_b e1 p4))))))))) 5 = .inr (.inl (0, [.ref 6, .int i5_1, .ref 8, .ref 9, .ref 31])) := (va_ne (ne_oa g5 g8)).trans g5
        have g11 : (va_up G 7 (.inl (1, (48, .inl (upd f8 i6_1.toNatClampNeg (vp_nar .byte (Int8.toInt32 (Int32.toInt8 (ty_b e1 p4))))))))) 6 = .inr (.inl (1, [.ref 7, .int i6_1, .int i6_2])) := (va_ne (ne_oa g6 g8)).trans g6
        have g12 : (va_up G 7 (.inl (1, (48, .inl (upd f8 i6_1.toNatClampNeg (vp_nar .byte (Int8.toInt32 (Int32.toInt8 (ty_b e1 p4))))))))) 7 = .inl (1, (48, .inl (upd f8 i6_1.toNatClampNeg (vp_nar .byte (Int8.toInt32 (Int32.toInt8 (ty_b e1 p4))))))) := up_eq
        refine w_mv (pc1 := 21) (st1 := [.ref 6]) rfl rfl rfl ?_
        refine w_mv (pc1 := 22) (st1 := [.ref 6, .ref 6]) rfl rfl rfl ?_
        refine cw_gf (v := .int i6_1) (pc1 := 25) rfl (by omega) (by omega) g11 rfl rfl ?_
        refine w_mv (pc1 := 26) (st1 := [.int 1, .int i6_1, .ref 6]) rfl rfl rfl ?_
        refine w_mv (pc1 := 27) (st1 := [.int (i6_1 + 1), .ref 6]) rfl rfl rfl ?_
        refine cw_pf (c1 := .inr (.inl (1, [.ref 7, .int (i6_1 + 1), .int i6_2]))) (pc1 := 30) rfl (by omega) (by omega) g11 rfl rfl rfl rfl ?_
        have g13 : (va_up (va_up G 7 (.inl (1, (48, .inl (upd f8 i6_1.toNatClampNeg (vp_nar .byte (Int8.toInt32 (Int32.toInt8 (ty_b e1 p4))))))))) 6 (.inr (.inl (1, [.ref 7, .int (i6_1 + 1), .int i6_2])))) 5 = .inr (.inl (0, [.ref 6, .int i5_1, .ref 8, .ref 9, .ref 31])) := (va_ne (ne_ob g10 g11 (by decide))).trans g10
        have g14 : (va_up (va_up G 7 (.inl (1, (48, .inl (upd f8 i6_1.toNatClampNeg (vp_nar .byte (Int8.toInt32 (Int32.toInt8 (ty_b e1 p4))))))))) 6 (.inr (.inl (1, [.ref 7, .int (i6_1 + 1), .int i6_2])))) 7 = .inl (1, (48, .inl (upd f8 i6_1.toNatClampNeg (vp_nar .byte (Int8.toInt32 (Int32.toInt8 (ty_b e1 p4))))))) := (va_ne (ne_ao g12 g11)).trans g12
        have g15 : (va_up (va_up G 7 (.inl (1, (48, .inl (upd f8 i6_1.toNatClampNeg (vp_nar .byte (Int8.toInt32 (Int32.toInt8 (ty_b e1 p4))))))))) 6 (.inr (.inl (1, [.ref 7, .int (i6_1 + 1), .int i6_2])))) 6 = .inr (.inl (1, [.ref 7, .int (i6_1 + 1), .int i6_2])) := up_eq
        refine w_vret (pc1 := 118) rfl rfl rfl ?_
        refine w_mv (pc1 := 121) (lv1 := [(4, .int (p4 + (-8))), (5, .int (ty_b e1 p4)), (0, .ref 5), (1, .long e1), (3, .int p3)]) (st1 := []) rfl rfl rfl ?_
        refine w_mv (pc1 := 91) (st1 := []) rfl rfl rfl ?_
        refine w_wk (l1 := [(0, .ref 5), (1, .long e1), (3, .int p3), (4, .int (p4 + (-8)))]) rfl ⟨rfl, rfl, rfl, rfl, trivial⟩ ?_
        refine hh d _ _ P (fun r N1 G1 kc1 ks1 q => ?_)
        exact c_acc (hP r N1 G1 _ _ q) (by omega) (by omega)
set_option maxRecDepth 20000 in
set_option maxHeartbeats 4000000 in
theorem k_23_0  {N : Nat} {G : Nat → sx_C} {K : Option Value ⊕ Nat → Nat → (Nat → sx_C) → Nat → Nat → Prop} (hh : 5 < N ∧ ∃ (i1_1 : Int32), G 5 = .inr (.inl (0, [.ref 6, .int i1_1, .ref 8, .ref 9, .ref 31])) ∧ 8 < N ∧ ∃ (r2_0 : Nat) (i2_1 : Int32) (i2_2 : Int32), G 8 = .inr (.inl (13, [.ref r2_0, .int i2_1, .int i2_2])) ∧ ((i2_1.toInt < 12 → 6 < N ∧ ∃ (i4_1 : Int32) (i4_2 : Int32), G 6 = .inr (.inl (1, [.ref 7, .int i4_1, .int i4_2])) ∧ cT (64) sM_25 0 [(0, .ref 6)] [] (N) G (fun r5 N5 G5 kc5 ks5 => ∃ o5 : Option Nat, r5 = .inl (some (va_rf o5)) ∧ 5 < N5 ∧ ∃ (i6_1 : Int32), G5 5 = .inr (.inl (0, [.ref 6, .int i6_1, .ref 8, .ref 9, .ref 31])) ∧ 6 < N5 ∧ ∃ (i7_1 : Int32) (i7_2 : Int32), G5 6 = .inr (.inl (1, [.ref 7, .int i7_1, .int i7_2])) ∧ ((o5 = none → K (.inr (N5)) (N5 + 1) (va_up (va_up (va_up G5 6 (.inr (.inl (1, [.ref 7, .int 0, .int i7_2])))) 5 (.inr (.inl (0, [.ref 6, .int i7_2, .ref 8, .ref 9, .ref 31])))) N5 (.inr (.inr 0))) (kc5 + 1) (ks5 + 6)) ∧ (∀ x10, o5 = some x10 → 8 < N5 ∧ ∃ (r13_0 : Nat) (i13_1 : Int32) (i13_2 : Int32), (va_up G5 6 (.inr (.inl (1, [.ref 7, .int 0, .int i7_2])))) 8 = .inr (.inl (13, [.ref r13_0, .int i13_1, .int i13_2])) ∧ cT (7) sM_166 0 [(0, .ref 8), (1, .ref x10)] [] (N5) (va_up G5 6 (.inr (.inl (1, [.ref 7, .int 0, .int i7_2])))) (fun r14 N14 G14 kc14 ks14 => ∃ v14 : Int32, r14 = .inl (some (.int v14)) ∧ 5 < N14 ∧ ∃ (i15_1 : Int32), G14 5 = .inr (.inl (0, [.ref 6, .int i15_1, .ref 8, .ref 9, .ref 31])) ∧ 8 < N14 ∧ ∃ (r16_0 : Nat) (i16_1 : Int32) (i16_2 : Int32), G14 8 = .inr (.inl (13, [.ref r16_0, .int i16_1, .int i16_2])) ∧ K (.inl (some (.int i16_1))) (N14) G14 (kc5 + kc14) (ks5 + ks14)))))) ∧ (12 ≤ i2_1.toInt → 6 < N ∧ ∃ (i17_1 : Int32) (i17_2 : Int32), G 6 = .inr (.inl (1, [.ref 7, .int i17_1, .int i17_2])) ∧ K (.inr (N)) (N + 1) (va_up (va_up G 6 (.inr (.inl (1, [.ref 7, .int 0, .int i17_2])))) N (.inr (.inr 1))) (1) (6)))) : cT (65) sM_23 0 [(0, .ref 5)] [] N G K := by
  intro d dc ds P hP
  refine w_mv (pc1 := 1) (st1 := [.ref 5]) rfl rfl rfl ?_
  obtain ⟨b1b, i1_1, g1, hh⟩ := hh
  refine cw_gf (v := .ref 8) (pc1 := 4) rfl (by omega) (by omega) g1 rfl rfl ?_
  obtain ⟨b2b, r2_0, i2_1, i2_2, g2, hh⟩ := hh
  refine w_call (M' := sM_165) (vals := [.ref 8]) (rest := []) (lv' := [(0, .ref 8)]) rfl rfl rfl rfl rfl rfl (cH_rcv (by omega) (by omega) g2) rfl rfl rfl ?_
  refine w_mv (pc1 := 1) (st1 := [.ref 8]) rfl rfl rfl ?_
  refine cw_gf (v := .int i2_1) (pc1 := 4) rfl (by omega) (by omega) g2 rfl rfl ?_
  refine w_iret (pc1 := 7) rfl rfl rfl rfl ?_
  refine w_mv (pc1 := 9) (st1 := [.int 12, .int i2_1]) rfl rfl rfl ?_
  by_cases h3 : i2_1.toInt < 12
  ·
    replace hh := hh.1 h3
    refine w_ilt_T (pc1 := 27) rfl rfl (show i2_1.toInt < 12 from h3) ?_
    refine w_mv (pc1 := 28) (st1 := [.ref 5]) rfl rfl rfl ?_
    refine cw_gf (v := .ref 6) (pc1 := 31) rfl (by omega) (by omega) g1 rfl rfl ?_
    obtain ⟨b4b, i4_1, i4_2, g4, hh⟩ := hh
    refine w_call (M' := sM_25) (vals := [.ref 6]) (rest := []) (lv' := [(0, .ref 6)]) rfl rfl rfl rfl rfl rfl (cH_rcv (by omega) (by omega) g4) rfl rfl rfl ?_
    refine hh _ _ _ _ (fun r5 N5 G5 kc5 ks5 hh => ?_)
    obtain ⟨o5, er5, hh⟩ := hh
    subst er5
    refine w_kr (pc1 := 34) rfl ?_
    refine w_mv (pc1 := 35) (lv1 := [(1, va_rf o5), (0, .ref 5)]) (st1 := []) rfl rfl (by cases o5 <;> rfl) ?_
    refine w_mv (pc1 := 36) (st1 := [.ref 5]) rfl rfl rfl ?_
    obtain ⟨b6b, i6_1, g6, hh⟩ := hh
    refine cw_gf (v := .ref 6) (pc1 := 39) rfl (by omega) (by omega) g6 rfl rfl ?_
    obtain ⟨b7b, i7_1, i7_2, g7, hh⟩ := hh
    refine w_call (M' := sM_24) (vals := [.ref 6]) (rest := []) (lv' := [(0, .ref 6)]) rfl rfl rfl rfl rfl rfl (cH_rcv (by omega) (by omega) g7) rfl rfl rfl ?_
    refine w_mv (pc1 := 1) (st1 := [.ref 6]) rfl rfl rfl ?_
    refine w_mv (pc1 := 2) (st1 := [.int 0, .ref 6]) rfl rfl rfl ?_
    refine cw_pf (c1 := .inr (.inl (1, [.ref 7, .int 0, .int i7_2]))) (pc1 := 5) rfl (by omega) (by omega) g7 rfl rfl rfl rfl ?_
    have g8 : (va_up G5 6 (.inr (.inl (1, [.ref 7, .int 0, .int i7_2])))) 5 = .inr (.inl (0, [.ref 6, .int i6_1, .ref 8, .ref 9, .ref 31])) := (va_ne (ne_ob g6 g7 (by decide))).trans g6
    have g9 : (va_up G5 6 (.inr (.inl (1, [.ref 7, .int 0, .int i7_2])))) 6 = .inr (.inl (1, [.ref 7, .int 0, .int i7_2])) := up_eq
    refine w_vret (pc1 := 42) rfl rfl rfl ?_
    refine w_mv (pc1 := 43) (lv1 := [(1, va_rf o5), (0, .ref 5)]) (st1 := [va_rf o5]) rfl rfl (by cases o5 <;> rfl) ?_
    cases o5 with
    | none =>
      replace hh := hh.1 rfl
      refine w_mv (pc1 := 46) (st1 := []) rfl rfl rfl ?_
      refine w_mv (pc1 := 47) (st1 := [.ref 5]) rfl rfl rfl ?_
      refine w_mv (pc1 := 48) (st1 := [.ref 5, .ref 5]) rfl rfl rfl ?_
      refine cw_gf (v := .ref 6) (pc1 := 51) rfl (by omega) (by omega) g8 rfl rfl ?_
      refine w_call (M' := sM_42) (vals := [.ref 6]) (rest := [.ref 5]) (lv' := [(0, .ref 6)]) rfl rfl rfl rfl rfl rfl (cH_rcv (by omega) (by omega) g9) rfl rfl rfl ?_
      refine w_mv (pc1 := 1) (st1 := [.ref 6]) rfl rfl rfl ?_
      refine cw_gf (v := .int i7_2) (pc1 := 4) rfl (by omega) (by omega) g9 rfl rfl ?_
      refine w_iret (pc1 := 54) rfl rfl rfl rfl ?_
      refine cw_pf (c1 := .inr (.inl (0, [.ref 6, .int i7_2, .ref 8, .ref 9, .ref 31]))) (pc1 := 57) rfl (by omega) (by omega) g8 rfl rfl rfl rfl ?_
      have g11 : (va_up (va_up G5 6 (.inr (.inl (1, [.ref 7, .int 0, .int i7_2])))) 5 (.inr (.inl (0, [.ref 6, .int i7_2, .ref 8, .ref 9, .ref 31])))) 6 = .inr (.inl (1, [.ref 7, .int 0, .int i7_2])) := (va_ne (ne_ob g9 g8 (by decide))).trans g9
      have g12 : (va_up (va_up G5 6 (.inr (.inl (1, [.ref 7, .int 0, .int i7_2])))) 5 (.inr (.inl (0, [.ref 6, .int i7_2, .ref 8, .ref 9, .ref 31])))) 5 = .inr (.inl (0, [.ref 6, .int i7_2, .ref 8, .ref 9, .ref 31])) := up_eq
      refine cw_thr rfl rfl (by omega) (Nat.le_of_ble_eq_true rfl) ?_
      exact c_acc (hP _ _ _ _ _ hh) (by omega) (by omega)
    | some x10 =>
      replace hh := hh.2 x10 rfl
      refine w_mv (pc1 := 65) (st1 := []) rfl rfl rfl ?_
      refine w_mv (pc1 := 66) (st1 := [.ref 5]) rfl rfl rfl ?_
      refine cw_gf (v := .ref 8) (pc1 := 69) rfl (by omega) (by omega) g8 rfl rfl ?_
      refine w_mv (pc1 := 70) (st1 := [.ref x10, .ref 8]) rfl rfl rfl ?_
      obtain ⟨b13b, r13_0, i13_1, i13_2, g13, hh⟩ := hh
      refine w_call (M' := sM_166) (vals := [.ref 8, .ref x10]) (rest := []) (lv' := [(0, .ref 8), (1, .ref x10)]) rfl rfl rfl rfl rfl rfl (cH_rcv (by omega) (by omega) g13) rfl rfl rfl ?_
      refine hh _ _ _ _ (fun r14 N14 G14 kc14 ks14 hh => ?_)
      obtain ⟨v14, er14, hh⟩ := hh
      subst er14
      refine w_ki (pc1 := 73) rfl ?_
      refine w_mv (pc1 := 74) (st1 := []) rfl rfl rfl ?_
      refine w_mv (pc1 := 75) (st1 := [.ref 5]) rfl rfl rfl ?_
      obtain ⟨b15b, i15_1, g15, hh⟩ := hh
      refine cw_gf (v := .ref 8) (pc1 := 78) rfl (by omega) (by omega) g15 rfl rfl ?_
      obtain ⟨b16b, r16_0, i16_1, i16_2, g16, hh⟩ := hh
      refine w_call (M' := sM_165) (vals := [.ref 8]) (rest := []) (lv' := [(0, .ref 8)]) rfl rfl rfl rfl rfl rfl (cH_rcv (by omega) (by omega) g16) rfl rfl rfl ?_
      refine w_mv (pc1 := 1) (st1 := [.ref 8]) rfl rfl rfl ?_
      refine cw_gf (v := .int i16_1) (pc1 := 4) rfl (by omega) (by omega) g16 rfl rfl ?_
      refine w_iret (pc1 := 81) rfl rfl rfl rfl ?_
      refine sx_wp.stop rfl rfl rfl ?_
      exact c_acc (hP _ _ _ _ _ hh) (by omega) (by omega)
  ·
    replace hh := hh.2 (Int.not_lt.mp h3)
    refine w_ilt_F (pc1 := 12) rfl (by decide) rfl (show 12 ≤ i2_1.toInt from (Int.not_lt.mp h3)) ?_
    refine w_mv (pc1 := 13) (st1 := [.ref 5]) rfl rfl rfl ?_
    refine cw_gf (v := .ref 6) (pc1 := 16) rfl (by omega) (by omega) g1 rfl rfl ?_
    obtain ⟨b17b, i17_1, i17_2, g17, hh⟩ := hh
    refine w_call (M' := sM_24) (vals := [.ref 6]) (rest := []) (lv' := [(0, .ref 6)]) rfl rfl rfl rfl rfl rfl (cH_rcv (by omega) (by omega) g17) rfl rfl rfl ?_
    refine w_mv (pc1 := 1) (st1 := [.ref 6]) rfl rfl rfl ?_
    refine w_mv (pc1 := 2) (st1 := [.int 0, .ref 6]) rfl rfl rfl ?_
    refine cw_pf (c1 := .inr (.inl (1, [.ref 7, .int 0, .int i17_2]))) (pc1 := 5) rfl (by omega) (by omega) g17 rfl rfl rfl rfl ?_
    have g18 : (va_up G 6 (.inr (.inl (1, [.ref 7, .int 0, .int i17_2])))) 5 = .inr (.inl (0, [.ref 6, .int i1_1, .ref 8, .ref 9, .ref 31])) := (va_ne (ne_ob g1 g17 (by decide))).trans g1
    have g19 : (va_up G 6 (.inr (.inl (1, [.ref 7, .int 0, .int i17_2])))) 8 = .inr (.inl (13, [.ref r2_0, .int i2_1, .int i2_2])) := (va_ne (ne_ob g2 g17 (by decide))).trans g2
    have g20 : (va_up G 6 (.inr (.inl (1, [.ref 7, .int 0, .int i17_2])))) 6 = .inr (.inl (1, [.ref 7, .int 0, .int i17_2])) := up_eq
    refine w_vret (pc1 := 19) rfl rfl rfl ?_
    refine cw_thr rfl rfl (by omega) (Nat.le_of_ble_eq_true rfl) ?_
    exact c_acc (hP _ _ _ _ _ hh) (by omega) (by omega)
set_option maxRecDepth 20000 in
set_option maxHeartbeats 4000000 in
theorem k_25_0  {N : Nat} {G : Nat → sx_C} {K : Option Value ⊕ Nat → Nat → (Nat → sx_C) → Nat → Nat → Prop} (hh : 6 < N ∧ ∃ (i1_1 : Int32) (i1_2 : Int32), G 6 = .inr (.inl (1, [.ref 7, .int i1_1, .int i1_2])) ∧ ((i1_1.toInt ≤ 0 → K (.inl (some (.null))) (N) (va_up G 6 (.inr (.inl (1, [.ref 7, .int i1_1, .int 0])))) (0) (0)) ∧ (0 < i1_1.toInt → 7 < N ∧ ∃ (f4 : Nat → Int32), (va_up G 6 (.inr (.inl (1, [.ref 7, .int i1_1, .int 0])))) 7 = .inl (1, (48, .inl f4)) ∧ 0 ≤ (0 : Int32).toInt ∧ (0 : Int32).toInt < (48 : Nat) ∧ (((f4 (0 : Int32).toNatClampNeg).toInt < 97 → K (.inl (some (.null))) (N) (va_up G 6 (.inr (.inl (1, [.ref 7, .int i1_1, .int 0])))) (0) (0)) ∧ (97 ≤ (f4 (0 : Int32).toNatClampNeg).toInt → ((122 < (f4 (0 : Int32).toNatClampNeg).toInt → K (.inl (some (.null))) (N) (va_up G 6 (.inr (.inl (1, [.ref 7, .int i1_1, .int 0])))) (0) (0)) ∧ ((f4 (0 : Int32).toNatClampNeg).toInt ≤ 122 → cT (60) sM_28 0 [(0, .ref 6), (1, .int 1)] [] (N) (va_up G 6 (.inr (.inl (1, [.ref 7, .int i1_1, .int 0])))) (fun r8 N8 G8 kc8 ks8 => ∃ o8 : Option Nat, r8 = .inl (some (va_rf o8)) ∧ ((o8 = none → K (.inl (some (.null))) (N8) G8 (kc8) (ks8)) ∧ (∀ x9, o8 = some x9 → 5 ≤ N8 ∧ 6 < N8 + 1 + 1 + 1 ∧ ∃ (i31_1 : Int32) (i31_2 : Int32), (va_up (va_up (va_up (va_up (va_up (va_up (va_up G8 N8 (.inr (.inl (8, [.null, .null, .null])))) (N8 + 1) (.inr (.inl (13, [.null, .int 0, .int 0])))) (N8 + 1) (.inr (.inl (13, [.ref 1, .int 0, .int 0])))) N8 (.inr (.inl (8, [.null, .ref (N8 + 1), .null])))) (N8 + 1 + 1) (.inr (.inl (13, [.null, .int 0, .int 0])))) (N8 + 1 + 1) (.inr (.inl (13, [.ref 1, .int 0, .int 0])))) N8 (.inr (.inl (8, [.ref x9, .ref (N8 + 1), .ref (N8 + 1 + 1)])))) 6 = .inr (.inl (1, [.ref 7, .int i31_1, .int i31_2])) ∧ ((i31_1.toInt ≤ i31_2.toInt → ((i31_1.toInt ≤ i31_2.toInt → ((i31_2.toInt ≠ i31_1.toInt → K (.inl (some (.null))) (N8 + 1 + 1 + 1) (va_up (va_up (va_up (va_up (va_up (va_up (va_up G8 N8 (.inr (.inl (8, [.null, .null, .null])))) (N8 + 1) (.inr (.inl (13, [.null, .int 0, .int 0])))) (N8 + 1) (.inr (.inl (13, [.ref 1, .int 0, .int 0])))) N8 (.inr (.inl (8, [.null, .ref (N8 + 1), .null])))) (N8 + 1 + 1) (.inr (.inl (13, [.null, .int 0, .int 0])))) (N8 + 1 + 1) (.inr (.inl (13, [.ref 1, .int 0, .int 0])))) N8 (.inr (.inl (8, [.ref x9, .ref (N8 + 1), .ref (N8 + 1 + 1)])))) (kc8 + 3) (ks8 + 9)) ∧ (i31_2.toInt = i31_1.toInt → K (.inl (some (.ref N8))) (N8 + 1 + 1 + 1) (va_up (va_up (va_up (va_up (va_up (va_up (va_up G8 N8 (.inr (.inl (8, [.null, .null, .null])))) (N8 + 1) (.inr (.inl (13, [.null, .int 0, .int 0])))) (N8 + 1) (.inr (.inl (13, [.ref 1, .int 0, .int 0])))) N8 (.inr (.inl (8, [.null, .ref (N8 + 1), .null])))) (N8 + 1 + 1) (.inr (.inl (13, [.null, .int 0, .int 0])))) (N8 + 1 + 1) (.inr (.inl (13, [.ref 1, .int 0, .int 0])))) N8 (.inr (.inl (8, [.ref x9, .ref (N8 + 1), .ref (N8 + 1 + 1)])))) (kc8 + 3) (ks8 + 9)))) ∧ (i31_2.toInt < i31_1.toInt → 7 < N8 + 1 + 1 + 1 ∧ ∃ (f35 : Nat → Int32), (va_up (va_up (va_up (va_up (va_up (va_up (va_up G8 N8 (.inr (.inl (8, [.null, .null, .null])))) (N8 + 1) (.inr (.inl (13, [.null, .int 0, .int 0])))) (N8 + 1) (.inr (.inl (13, [.ref 1, .int 0, .int 0])))) N8 (.inr (.inl (8, [.null, .ref (N8 + 1), .null])))) (N8 + 1 + 1) (.inr (.inl (13, [.null, .int 0, .int 0])))) (N8 + 1 + 1) (.inr (.inl (13, [.ref 1, .int 0, .int 0])))) N8 (.inr (.inl (8, [.ref x9, .ref (N8 + 1), .ref (N8 + 1 + 1)])))) 7 = .inl (1, (48, .inl f35)) ∧ 0 ≤ i31_2.toInt ∧ i31_2.toInt < (48 : Nat) ∧ (((f35 i31_2.toNatClampNeg).toInt = 124 → cT (63) sM_36 0 [(0, .ref 6), (1, .ref (N8 + 1 + 1)), (2, .int 0)] [] (N8 + 1 + 1 + 1) (va_up (va_up (va_up (va_up (va_up (va_up (va_up (va_up G8 N8 (.inr (.inl (8, [.null, .null, .null])))) (N8 + 1) (.inr (.inl (13, [.null, .int 0, .int 0])))) (N8 + 1) (.inr (.inl (13, [.ref 1, .int 0, .int 0])))) N8 (.inr (.inl (8, [.null, .ref (N8 + 1), .null])))) (N8 + 1 + 1) (.inr (.inl (13, [.null, .int 0, .int 0])))) (N8 + 1 + 1) (.inr (.inl (13, [.ref 1, .int 0, .int 0])))) N8 (.inr (.inl (8, [.ref x9, .ref (N8 + 1), .ref (N8 + 1 + 1)])))) 6 (.inr (.inl (1, [.ref 7, .int i31_1, .int (i31_2 + 1)])))) (fun r42 N42 G42 kc42 ks42 => ∃ v42 : Int32, r42 = .inl (some (.int v42)) ∧ ((v42.toInt ≠ 0 → 6 < N42 ∧ ∃ (i44_1 : Int32) (i44_2 : Int32), G42 6 = .inr (.inl (1, [.ref 7, .int i44_1, .int i44_2])) ∧ ((i44_2.toInt ≠ i44_1.toInt → K (.inl (some (.null))) (N42) G42 (kc8 + kc42 + 3) (ks8 + ks42 + 9)) ∧ (i44_2.toInt = i44_1.toInt → K (.inl (some (.ref N8))) (N42) G42 (kc8 + kc42 + 3) (ks8 + ks42 + 9)))) ∧ (v42.toInt = 0 → K (.inl (some (.null))) (N42) G42 (kc8 + kc42 + 3) (ks8 + ks42 + 9))))) ∧ ((f35 i31_2.toNatClampNeg).toInt ≠ 124 → ((i31_2.toInt ≠ i31_1.toInt → K (.inl (some (.null))) (N8 + 1 + 1 + 1) (va_up (va_up (va_up (va_up (va_up (va_up (va_up G8 N8 (.inr (.inl (8, [.null, .null, .null])))) (N8 + 1) (.inr (.inl (13, [.null, .int 0, .int 0])))) (N8 + 1) (.inr (.inl (13, [.ref 1, .int 0, .int 0])))) N8 (.inr (.inl (8, [.null, .ref (N8 + 1), .null])))) (N8 + 1 + 1) (.inr (.inl (13, [.null, .int 0, .int 0])))) (N8 + 1 + 1) (.inr (.inl (13, [.ref 1, .int 0, .int 0])))) N8 (.inr (.inl (8, [.ref x9, .ref (N8 + 1), .ref (N8 + 1 + 1)])))) (kc8 + 3) (ks8 + 9)) ∧ (i31_2.toInt = i31_1.toInt → K (.inl (some (.ref N8))) (N8 + 1 + 1 + 1) (va_up (va_up (va_up (va_up (va_up (va_up (va_up G8 N8 (.inr (.inl (8, [.null, .null, .null])))) (N8 + 1) (.inr (.inl (13, [.null, .int 0, .int 0])))) (N8 + 1) (.inr (.inl (13, [.ref 1, .int 0, .int 0])))) N8 (.inr (.inl (8, [.null, .ref (N8 + 1), .null])))) (N8 + 1 + 1) (.inr (.inl (13, [.null, .int 0, .int 0])))) (N8 + 1 + 1) (.inr (.inl (13, [.ref 1, .int 0, .int 0])))) N8 (.inr (.inl (8, [.ref x9, .ref (N8 + 1), .ref (N8 + 1 + 1)])))) (kc8 + 3) (ks8 + 9)))))))) ∧ (i31_2.toInt < i31_1.toInt → 7 < N8 + 1 + 1 + 1 ∧ ∃ (f47 : Nat → Int32), (va_up (va_up (va_up (va_up (va_up (va_up (va_up G8 N8 (.inr (.inl (8, [.null, .null, .null])))) (N8 + 1) (.inr (.inl (13, [.null, .int 0, .int 0])))) (N8 + 1) (.inr (.inl (13, [.ref 1, .int 0, .int 0])))) N8 (.inr (.inl (8, [.null, .ref (N8 + 1), .null])))) (N8 + 1 + 1) (.inr (.inl (13, [.null, .int 0, .int 0])))) (N8 + 1 + 1) (.inr (.inl (13, [.ref 1, .int 0, .int 0])))) N8 (.inr (.inl (8, [.ref x9, .ref (N8 + 1), .ref (N8 + 1 + 1)])))) 7 = .inl (1, (48, .inl f47)) ∧ 0 ≤ i31_2.toInt ∧ i31_2.toInt < (48 : Nat) ∧ (((f47 i31_2.toNatClampNeg).toInt = 58 → cT (63) sM_36 0 [(0, .ref 6), (1, .ref (N8 + 1)), (2, .int 1)] [] (N8 + 1 + 1 + 1) (va_up (va_up (va_up (va_up (va_up (va_up (va_up (va_up G8 N8 (.inr (.inl (8, [.null, .null, .null])))) (N8 + 1) (.inr (.inl (13, [.null, .int 0, .int 0])))) (N8 + 1) (.inr (.inl (13, [.ref 1, .int 0, .int 0])))) N8 (.inr (.inl (8, [.null, .ref (N8 + 1), .null])))) (N8 + 1 + 1) (.inr (.inl (13, [.null, .int 0, .int 0])))) (N8 + 1 + 1) (.inr (.inl (13, [.ref 1, .int 0, .int 0])))) N8 (.inr (.inl (8, [.ref x9, .ref (N8 + 1), .ref (N8 + 1 + 1)])))) 6 (.inr (.inl (1, [.ref 7, .int i31_1, .int (i31_2 + 1)])))) (fun r54 N54 G54 kc54 ks54 => ∃ v54 : Int32, r54 = .inl (some (.int v54)) ∧ ((v54.toInt ≠ 0 → 6 < N54 ∧ ∃ (i56_1 : Int32) (i56_2 : Int32), G54 6 = .inr (.inl (1, [.ref 7, .int i56_1, .int i56_2])) ∧ ((i56_1.toInt ≤ i56_2.toInt → ((i56_2.toInt ≠ i56_1.toInt → K (.inl (some (.null))) (N54) G54 (kc8 + kc54 + 3) (ks8 + ks54 + 9)) ∧ (i56_2.toInt = i56_1.toInt → K (.inl (some (.ref N8))) (N54) G54 (kc8 + kc54 + 3) (ks8 + ks54 + 9)))) ∧ (i56_2.toInt < i56_1.toInt → 7 < N54 ∧ ∃ (f59 : Nat → Int32), G54 7 = .inl (1, (48, .inl f59)) ∧ 0 ≤ i56_2.toInt ∧ i56_2.toInt < (48 : Nat) ∧ (((f59 i56_2.toNatClampNeg).toInt = 124 → 5 ≤ N8 ∧ N8 < N54 ∧ ∃ (r64_0 : Nat) (r64_1 : Nat) (r64_2 : Nat), (va_up G54 6 (.inr (.inl (1, [.ref 7, .int i56_1, .int (i56_2 + 1)])))) N8 = .inr (.inl (8, [.ref r64_0, .ref r64_1, .ref r64_2])) ∧ cT (63) sM_36 0 [(0, .ref 6), (1, .ref r64_2), (2, .int 0)] [] (N54) (va_up G54 6 (.inr (.inl (1, [.ref 7, .int i56_1, .int (i56_2 + 1)])))) (fun r65 N65 G65 kc65 ks65 => ∃ v65 : Int32, r65 = .inl (some (.int v65)) ∧ ((v65.toInt ≠ 0 → 6 < N65 ∧ ∃ (i67_1 : Int32) (i67_2 : Int32), G65 6 = .inr (.inl (1, [.ref 7, .int i67_1, .int i67_2])) ∧ ((i67_2.toInt ≠ i67_1.toInt → K (.inl (some (.null))) (N65) G65 (kc8 + kc54 + kc65 + 3) (ks8 + ks54 + ks65 + 9)) ∧ (i67_2.toInt = i67_1.toInt → K (.inl (some (.ref N8))) (N65) G65 (kc8 + kc54 + kc65 + 3) (ks8 + ks54 + ks65 + 9)))) ∧ (v65.toInt = 0 → K (.inl (some (.null))) (N65) G65 (kc8 + kc54 + kc65 + 3) (ks8 + ks54 + ks65 + 9))))) ∧ ((f59 i56_2.toNatClampNeg).toInt ≠ 124 → ((i56_2.toInt ≠ i56_1.toInt → K (.inl (some (.null))) (N54) G54 (kc8 + kc54 + 3) (ks8 + ks54 + 9)) ∧ (i56_2.toInt = i56_1.toInt → K (.inl (some (.ref N8))) (N54) G54 (kc8 + kc54 + 3) (ks8 + ks54 + 9)))))))) ∧ (v54.toInt = 0 → K (.inl (some (.null))) (N54) G54 (kc8 + kc54 + 3) (ks8 + ks54 + 9))))) ∧ ((f47 i31_2.toNatClampNeg).toInt ≠ 58 → ((i31_1.toInt ≤ i31_2.toInt → ((i31_2.toInt ≠ i31_1.toInt → K (.inl (some (.null))) (N8 + 1 + 1 + 1) (va_up (va_up (va_up (va_up (va_up (va_up (va_up G8 N8 (.inr (.inl (8, [.null, .null, .null])))) (N8 + 1) (.inr (.inl (13, [.null, .int 0, .int 0])))) (N8 + 1) (.inr (.inl (13, [.ref 1, .int 0, .int 0])))) N8 (.inr (.inl (8, [.null, .ref (N8 + 1), .null])))) (N8 + 1 + 1) (.inr (.inl (13, [.null, .int 0, .int 0])))) (N8 + 1 + 1) (.inr (.inl (13, [.ref 1, .int 0, .int 0])))) N8 (.inr (.inl (8, [.ref x9, .ref (N8 + 1), .ref (N8 + 1 + 1)])))) (kc8 + 3) (ks8 + 9)) ∧ (i31_2.toInt = i31_1.toInt → K (.inl (some (.ref N8))) (N8 + 1 + 1 + 1) (va_up (va_up (va_up (va_up (va_up (va_up (va_up G8 N8 (.inr (.inl (8, [.null, .null, .null])))) (N8 + 1) (.inr (.inl (13, [.null, .int 0, .int 0])))) (N8 + 1) (.inr (.inl (13, [.ref 1, .int 0, .int 0])))) N8 (.inr (.inl (8, [.null, .ref (N8 + 1), .null])))) (N8 + 1 + 1) (.inr (.inl (13, [.null, .int 0, .int 0])))) (N8 + 1 + 1) (.inr (.inl (13, [.ref 1, .int 0, .int 0])))) N8 (.inr (.inl (8, [.ref x9, .ref (N8 + 1), .ref (N8 + 1 + 1)])))) (kc8 + 3) (ks8 + 9)))) ∧ (i31_2.toInt < i31_1.toInt → 0 ≤ i31_2.toInt ∧ i31_2.toInt < (48 : Nat) ∧ (((f47 i31_2.toNatClampNeg).toInt = 124 → cT (63) sM_36 0 [(0, .ref 6), (1, .ref (N8 + 1 + 1)), (2, .int 0)] [] (N8 + 1 + 1 + 1) (va_up (va_up (va_up (va_up (va_up (va_up (va_up (va_up G8 N8 (.inr (.inl (8, [.null, .null, .null])))) (N8 + 1) (.inr (.inl (13, [.null, .int 0, .int 0])))) (N8 + 1) (.inr (.inl (13, [.ref 1, .int 0, .int 0])))) N8 (.inr (.inl (8, [.null, .ref (N8 + 1), .null])))) (N8 + 1 + 1) (.inr (.inl (13, [.null, .int 0, .int 0])))) (N8 + 1 + 1) (.inr (.inl (13, [.ref 1, .int 0, .int 0])))) N8 (.inr (.inl (8, [.ref x9, .ref (N8 + 1), .ref (N8 + 1 + 1)])))) 6 (.inr (.inl (1, [.ref 7, .int i31_1, .int (i31_2 + 1)])))) (fun r78 N78 G78 kc78 ks78 => ∃ v78 : Int32, r78 = .inl (some (.int v78)) ∧ ((v78.toInt ≠ 0 → 6 < N78 ∧ ∃ (i80_1 : Int32) (i80_2 : Int32), G78 6 = .inr (.inl (1, [.ref 7, .int i80_1, .int i80_2])) ∧ ((i80_2.toInt ≠ i80_1.toInt → K (.inl (some (.null))) (N78) G78 (kc8 + kc78 + 3) (ks8 + ks78 + 9)) ∧ (i80_2.toInt = i80_1.toInt → K (.inl (some (.ref N8))) (N78) G78 (kc8 + kc78 + 3) (ks8 + ks78 + 9)))) ∧ (v78.toInt = 0 → K (.inl (some (.null))) (N78) G78 (kc8 + kc78 + 3) (ks8 + ks78 + 9))))) ∧ ((f47 i31_2.toNatClampNeg).toInt ≠ 124 → ((i31_2.toInt ≠ i31_1.toInt → K (.inl (some (.null))) (N8 + 1 + 1 + 1) (va_up (va_up (va_up (va_up (va_up (va_up (va_up G8 N8 (.inr (.inl (8, [.null, .null, .null])))) (N8 + 1) (.inr (.inl (13, [.null, .int 0, .int 0])))) (N8 + 1) (.inr (.inl (13, [.ref 1, .int 0, .int 0])))) N8 (.inr (.inl (8, [.null, .ref (N8 + 1), .null])))) (N8 + 1 + 1) (.inr (.inl (13, [.null, .int 0, .int 0])))) (N8 + 1 + 1) (.inr (.inl (13, [.ref 1, .int 0, .int 0])))) N8 (.inr (.inl (8, [.ref x9, .ref (N8 + 1), .ref (N8 + 1 + 1)])))) (kc8 + 3) (ks8 + 9)) ∧ (i31_2.toInt = i31_1.toInt → K (.inl (some (.ref N8))) (N8 + 1 + 1 + 1) (va_up (va_up (va_up (va_up (va_up (va_up (va_up G8 N8 (.inr (.inl (8, [.null, .null, .null])))) (N8 + 1) (.inr (.inl (13, [.null, .int 0, .int 0])))) (N8 + 1) (.inr (.inl (13, [.ref 1, .int 0, .int 0])))) N8 (.inr (.inl (8, [.null, .ref (N8 + 1), .null])))) (N8 + 1 + 1) (.inr (.inl (13, [.null, .int 0, .int 0])))) (N8 + 1 + 1) (.inr (.inl (13, [.ref 1, .int 0, .int 0])))) N8 (.inr (.inl (8, [.ref x9, .ref (N8 + 1), .ref (N8 + 1 + 1)])))) (kc8 + 3) (ks8 + 9))))))))))))))))))))) : cT (64) sM_25 0 [(0, .ref 6)] [] N G K := by
  intro d dc ds P hP
  refine w_mv (pc1 := 1) (st1 := [.ref 6]) rfl rfl rfl ?_
  refine w_mv (pc1 := 2) (st1 := [.int 0, .ref 6]) rfl rfl rfl ?_
  obtain ⟨b1b, i1_1, i1_2, g1, hh⟩ := hh
  refine cw_pf (c1 := .inr (.inl (1, [.ref 7, .int i1_1, .int 0]))) (pc1 := 5) rfl (by omega) (by omega) g1 rfl rfl rfl rfl ?_
  have g2 : (va_up G 6 (.inr (.inl (1, [.ref 7, .int i1_1, .int 0])))) 6 = .inr (.inl (1, [.ref 7, .int i1_1, .int 0])) := up_eq
  refine w_mv (pc1 := 6) (st1 := [.ref 6]) rfl rfl rfl ?_
  refine w_call (M' := sM_26) (vals := [.ref 6]) (rest := []) (lv' := [(0, .ref 6)]) rfl rfl rfl rfl rfl rfl (cH_rcv (by omega) (by omega) g2) rfl rfl rfl ?_
  refine w_mv (pc1 := 1) (st1 := [.ref 6]) rfl rfl rfl ?_
  refine cw_gf (v := .int 0) (pc1 := 4) rfl (by omega) (by omega) g2 rfl rfl ?_
  refine w_mv (pc1 := 5) (st1 := [.ref 6, .int 0]) rfl rfl rfl ?_
  refine cw_gf (v := .int i1_1) (pc1 := 8) rfl (by omega) (by omega) g2 rfl rfl ?_
  by_cases h3 : i1_1.toInt ≤ 0
  ·
    replace hh := hh.1 h3
    refine w_ige_T (pc1 := 23) rfl rfl (show i1_1.toInt ≤ 0 from h3) ?_
    refine w_mv (pc1 := 24) (st1 := [.int 0]) rfl rfl rfl ?_
    refine w_iret (pc1 := 9) rfl rfl rfl rfl ?_
    refine w_call (M' := sM_27) (vals := [.int 0]) (rest := []) (lv' := [(0, .int 0)]) rfl rfl rfl rfl rfl rfl rfl rfl rfl rfl ?_
    refine w_mv (pc1 := 1) (st1 := [.int 0]) rfl rfl rfl ?_
    refine w_mv (pc1 := 3) (st1 := [.int 97, .int 0]) rfl rfl rfl ?_
    refine w_mv (pc1 := 16) (st1 := []) rfl rfl rfl ?_
    refine w_mv (pc1 := 17) (st1 := [.int 0]) rfl rfl rfl ?_
    refine w_iret (pc1 := 12) rfl rfl rfl rfl ?_
    refine w_mv (pc1 := 23) (st1 := []) rfl rfl rfl ?_
    refine w_mv (pc1 := 24) (st1 := [.null]) rfl rfl rfl ?_
    refine w_mv (pc1 := 25) (lv1 := [(1, .null), (0, .ref 6)]) (st1 := []) rfl rfl rfl ?_
    refine w_mv (pc1 := 26) (st1 := [.null]) rfl rfl rfl ?_
    refine w_mv (pc1 := 29) (st1 := []) rfl rfl rfl ?_
    refine w_mv (pc1 := 30) (st1 := [.null]) rfl rfl rfl ?_
    refine sx_wp.stop rfl rfl rfl ?_
    exact c_acc (hP _ _ _ _ _ hh) (by omega) (by omega)
  ·
    replace hh := hh.2 (Int.not_le.mp h3)
    refine w_ige_F (pc1 := 11) rfl (by decide) rfl (show 0 < i1_1.toInt from (Int.not_le.mp h3)) ?_
    refine w_mv (pc1 := 12) (st1 := [.ref 6]) rfl rfl rfl ?_
    refine cw_gf (v := .ref 7) (pc1 := 15) rfl (by omega) (by omega) g2 rfl rfl ?_
    refine w_mv (pc1 := 16) (st1 := [.ref 6, .ref 7]) rfl rfl rfl ?_
    refine cw_gf (v := .int 0) (pc1 := 19) rfl (by omega) (by omega) g2 rfl rfl ?_
    obtain ⟨b4b, f4, g4, hh⟩ := hh
    obtain ⟨q5a, q5b, hh⟩ := hh
    refine cw_bld (pc1 := 20) rfl (by omega) g4 q5a q5b rfl ?_
    refine w_mv (pc1 := 24) (st1 := [.int (f4 (0 : Int32).toNatClampNeg)]) rfl rfl rfl ?_
    refine w_iret (pc1 := 9) rfl rfl rfl rfl ?_
    refine w_call (M' := sM_27) (vals := [.int (f4 (0 : Int32).toNatClampNeg)]) (rest := []) (lv' := [(0, .int (f4 (0 : Int32).toNatClampNeg))]) rfl rfl rfl rfl rfl rfl rfl rfl rfl rfl ?_
    refine w_mv (pc1 := 1) (st1 := [.int (f4 (0 : Int32).toNatClampNeg)]) rfl rfl rfl ?_
    refine w_mv (pc1 := 3) (st1 := [.int 97, .int (f4 (0 : Int32).toNatClampNeg)]) rfl rfl rfl ?_
    by_cases h6 : (f4 (0 : Int32).toNatClampNeg).toInt < 97
    ·
      replace hh := hh.1 h6
      refine w_ilt_T (pc1 := 16) rfl rfl (show (f4 (0 : Int32).toNatClampNeg).toInt < 97 from h6) ?_
      refine w_mv (pc1 := 17) (st1 := [.int 0]) rfl rfl rfl ?_
      refine w_iret (pc1 := 12) rfl rfl rfl rfl ?_
      refine w_mv (pc1 := 23) (st1 := []) rfl rfl rfl ?_
      refine w_mv (pc1 := 24) (st1 := [.null]) rfl rfl rfl ?_
      refine w_mv (pc1 := 25) (lv1 := [(1, .null), (0, .ref 6)]) (st1 := []) rfl rfl rfl ?_
      refine w_mv (pc1 := 26) (st1 := [.null]) rfl rfl rfl ?_
      refine w_mv (pc1 := 29) (st1 := []) rfl rfl rfl ?_
      refine w_mv (pc1 := 30) (st1 := [.null]) rfl rfl rfl ?_
      refine sx_wp.stop rfl rfl rfl ?_
      exact c_acc (hP _ _ _ _ _ hh) (by omega) (by omega)
    ·
      replace hh := hh.2 (Int.not_lt.mp h6)
      refine w_ilt_F (pc1 := 6) rfl (by decide) rfl (show 97 ≤ (f4 (0 : Int32).toNatClampNeg).toInt from (Int.not_lt.mp h6)) ?_
      refine w_mv (pc1 := 7) (st1 := [.int (f4 (0 : Int32).toNatClampNeg)]) rfl rfl rfl ?_
      refine w_mv (pc1 := 9) (st1 := [.int 122, .int (f4 (0 : Int32).toNatClampNeg)]) rfl rfl rfl ?_
      by_cases h7 : 122 < (f4 (0 : Int32).toNatClampNeg).toInt
      ·
        replace hh := hh.1 h7
        refine w_igt_T (pc1 := 16) rfl rfl (show 122 < (f4 (0 : Int32).toNatClampNeg).toInt from h7) ?_
        refine w_mv (pc1 := 17) (st1 := [.int 0]) rfl rfl rfl ?_
        refine w_iret (pc1 := 12) rfl rfl rfl rfl ?_
        refine w_mv (pc1 := 23) (st1 := []) rfl rfl rfl ?_
        refine w_mv (pc1 := 24) (st1 := [.null]) rfl rfl rfl ?_
        refine w_mv (pc1 := 25) (lv1 := [(1, .null), (0, .ref 6)]) (st1 := []) rfl rfl rfl ?_
        refine w_mv (pc1 := 26) (st1 := [.null]) rfl rfl rfl ?_
        refine w_mv (pc1 := 29) (st1 := []) rfl rfl rfl ?_
        refine w_mv (pc1 := 30) (st1 := [.null]) rfl rfl rfl ?_
        refine sx_wp.stop rfl rfl rfl ?_
        exact c_acc (hP _ _ _ _ _ hh) (by omega) (by omega)
      ·
        replace hh := hh.2 (Int.not_lt.mp h7)
        refine w_igt_F (pc1 := 12) rfl (by decide) rfl (show (f4 (0 : Int32).toNatClampNeg).toInt ≤ 122 from (Int.not_lt.mp h7)) ?_
        refine w_mv (pc1 := 13) (st1 := [.int 1]) rfl rfl rfl ?_
        refine w_mv (pc1 := 17) (st1 := [.int 1]) rfl rfl rfl ?_
        refine w_iret (pc1 := 12) rfl rfl rfl rfl ?_
        refine w_mv (pc1 := 15) (st1 := []) rfl rfl rfl ?_
        refine w_mv (pc1 := 16) (st1 := [.ref 6]) rfl rfl rfl ?_
        refine w_mv (pc1 := 17) (st1 := [.int 1, .ref 6]) rfl rfl rfl ?_
        refine w_call (M' := sM_28) (vals := [.ref 6, .int 1]) (rest := []) (lv' := [(0, .ref 6), (1, .int 1)]) rfl rfl rfl rfl rfl rfl (cH_rcv (by omega) (by omega) g2) rfl rfl rfl ?_
        refine hh _ _ _ _ (fun r8 N8 G8 kc8 ks8 hh => ?_)
        obtain ⟨o8, er8, hh⟩ := hh
        subst er8
        refine w_kr (pc1 := 20) rfl ?_
        refine w_mv (pc1 := 24) (st1 := [va_rf o8]) rfl rfl rfl ?_
        refine w_mv (pc1 := 25) (lv1 := [(1, va_rf o8), (0, .ref 6)]) (st1 := []) rfl rfl (by cases o8 <;> rfl) ?_
        refine w_mv (pc1 := 26) (lv1 := [(1, va_rf o8), (0, .ref 6)]) (st1 := [va_rf o8]) rfl rfl (by cases o8 <;> rfl) ?_
        cases o8 with
        | none =>
          replace hh := hh.1 rfl
          refine w_mv (pc1 := 29) (st1 := []) rfl rfl rfl ?_
          refine w_mv (pc1 := 30) (st1 := [.null]) rfl rfl rfl ?_
          refine sx_wp.stop rfl rfl rfl ?_
          exact c_acc (hP _ _ _ _ _ hh) (by omega) (by omega)
        | some x9 =>
          replace hh := hh.2 x9 rfl
          refine w_mv (pc1 := 31) (st1 := []) rfl rfl rfl ?_
          obtain ⟨q10a, hh⟩ := hh
          refine cw_new (k := 3) (c1 := .inr (.inl (8, [.null, .null, .null]))) (pc1 := 34) rfl rfl rfl rfl ?_
          have g11 : (va_up G8 N8 (.inr (.inl (8, [.null, .null, .null])))) N8 = .inr (.inl (8, [.null, .null, .null])) := up_eq
          refine w_mv (pc1 := 35) (st1 := [.ref N8, .ref N8]) rfl rfl rfl ?_
          refine w_mv (pc1 := 36) (st1 := [.ref x9, .ref N8, .ref N8]) rfl rfl rfl ?_
          refine w_call (M' := sM_35) (vals := [.ref N8, .ref x9]) (rest := [.ref N8]) (lv' := [(0, .ref N8), (1, .ref x9)]) rfl rfl rfl rfl rfl rfl rfl rfl rfl rfl ?_
          refine w_mv (pc1 := 1) (st1 := [.ref N8]) rfl rfl rfl ?_
          refine w_obj (pc1 := 4) (st1 := []) rfl rfl rfl ⟨by omega, Nat.le_of_ble_eq_true rfl⟩ rfl ?_
          refine w_mv (pc1 := 5) (st1 := [.ref N8]) rfl rfl rfl ?_
          refine cw_new (k := 3) (c1 := .inr (.inl (13, [.null, .int 0, .int 0]))) (pc1 := 8) rfl rfl rfl rfl ?_
          have g12 : (va_up (va_up G8 N8 (.inr (.inl (8, [.null, .null, .null])))) (N8 + 1) (.inr (.inl (13, [.null, .int 0, .int 0])))) N8 = .inr (.inl (8, [.null, .null, .null])) := (va_ne (by omega)).trans g11
          have g13 : (va_up (va_up G8 N8 (.inr (.inl (8, [.null, .null, .null])))) (N8 + 1) (.inr (.inl (13, [.null, .int 0, .int 0])))) (N8 + 1) = .inr (.inl (13, [.null, .int 0, .int 0])) := up_eq
          refine w_mv (pc1 := 9) (st1 := [.ref (N8 + 1), .ref (N8 + 1), .ref N8]) rfl rfl rfl ?_
          refine w_call (M' := sM_160) (vals := [.ref (N8 + 1)]) (rest := [.ref (N8 + 1), .ref N8]) (lv' := [(0, .ref (N8 + 1))]) rfl rfl rfl rfl rfl rfl rfl rfl rfl rfl ?_
          refine w_mv (pc1 := 1) (st1 := [.ref (N8 + 1)]) rfl rfl rfl ?_
          refine w_call (M' := sM_161) (vals := [.ref (N8 + 1)]) (rest := []) (lv' := [(0, .ref (N8 + 1))]) rfl rfl rfl rfl rfl rfl rfl rfl rfl rfl ?_
          refine w_mv (pc1 := 1) (st1 := [.ref (N8 + 1)]) rfl rfl rfl ?_
          refine w_call (M' := sM_162) (vals := [.ref (N8 + 1)]) (rest := []) (lv' := [(0, .ref (N8 + 1))]) rfl rfl rfl rfl rfl rfl rfl rfl rfl rfl ?_
          refine w_mv (pc1 := 1) (st1 := [.ref (N8 + 1)]) rfl rfl rfl ?_
          refine w_obj (pc1 := 4) (st1 := []) rfl rfl rfl ⟨by omega, Nat.le_of_ble_eq_true rfl⟩ rfl ?_
          refine w_vret (pc1 := 4) rfl rfl rfl ?_
          refine w_mv (pc1 := 5) (st1 := [.ref (N8 + 1)]) rfl rfl rfl ?_
          refine w_mv (pc1 := 6) (st1 := [.int 0, .ref (N8 + 1)]) rfl rfl rfl ?_
          refine cw_pf (c1 := .inr (.inl (13, [.null, .int 0, .int 0]))) (pc1 := 9) rfl (by omega) (by omega) g13 rfl rfl rfl rfl ?_
          have g14 : (va_up (va_up (va_up G8 N8 (.inr (.inl (8, [.null, .null, .null])))) (N8 + 1) (.inr (.inl (13, [.null, .int 0, .int 0])))) (N8 + 1) (.inr (.inl (13, [.null, .int 0, .int 0])))) N8 = .inr (.inl (8, [.null, .null, .null])) := (va_ne (ne_ob g12 g13 (by decide))).trans g12
          have g15 : (va_up (va_up (va_up G8 N8 (.inr (.inl (8, [.null, .null, .null])))) (N8 + 1) (.inr (.inl (13, [.null, .int 0, .int 0])))) (N8 + 1) (.inr (.inl (13, [.null, .int 0, .int 0])))) (N8 + 1) = .inr (.inl (13, [.null, .int 0, .int 0])) := up_eq
          refine w_vret (pc1 := 4) rfl rfl rfl ?_
          refine w_mv (pc1 := 5) (st1 := [.ref (N8 + 1)]) rfl rfl rfl ?_
          refine w_mv (pc1 := 8) (st1 := [.ref 1, .ref (N8 + 1)]) rfl rfl rfl ?_
          refine cw_pf (c1 := .inr (.inl (13, [.ref 1, .int 0, .int 0]))) (pc1 := 11) rfl (by omega) (by omega) g15 rfl rfl rfl rfl ?_
          rw [va_uu]
          have g16 : (va_up (va_up (va_up G8 N8 (.inr (.inl (8, [.null, .null, .null])))) (N8 + 1) (.inr (.inl (13, [.null, .int 0, .int 0])))) (N8 + 1) (.inr (.inl (13, [.ref 1, .int 0, .int 0])))) N8 = .inr (.inl (8, [.null, .null, .null])) := (va_ne (ne_ob g14 g15 (by decide))).trans ((va_ne (ne_ob g14 g15 (by decide))).symm.trans g14)
          have g17 : (va_up (va_up (va_up G8 N8 (.inr (.inl (8, [.null, .null, .null])))) (N8 + 1) (.inr (.inl (13, [.null, .int 0, .int 0])))) (N8 + 1) (.inr (.inl (13, [.ref 1, .int 0, .int 0])))) (N8 + 1) = .inr (.inl (13, [.ref 1, .int 0, .int 0])) := up_eq
          refine w_vret (pc1 := 12) rfl rfl rfl ?_
          refine cw_pf (c1 := .inr (.inl (8, [.null, .ref (N8 + 1), .null]))) (pc1 := 15) rfl (by omega) (by omega) g16 rfl rfl rfl rfl ?_
          have g18 : (va_up (va_up (va_up (va_up G8 N8 (.inr (.inl (8, [.null, .null, .null])))) (N8 + 1) (.inr (.inl (13, [.null, .int 0, .int 0])))) (N8 + 1) (.inr (.inl (13, [.ref 1, .int 0, .int 0])))) N8 (.inr (.inl (8, [.null, .ref (N8 + 1), .null])))) (N8 + 1) = .inr (.inl (13, [.ref 1, .int 0, .int 0])) := (va_ne (ne_ob g17 g16 (by decide))).trans g17
          have g19 : (va_up (va_up (va_up (va_up G8 N8 (.inr (.inl (8, [.null, .null, .null])))) (N8 + 1) (.inr (.inl (13, [.null, .int 0, .int 0])))) (N8 + 1) (.inr (.inl (13, [.ref 1, .int 0, .int 0])))) N8 (.inr (.inl (8, [.null, .ref (N8 + 1), .null])))) N8 = .inr (.inl (8, [.null, .ref (N8 + 1), .null])) := up_eq
          refine w_mv (pc1 := 16) (st1 := [.ref N8]) rfl rfl rfl ?_
          refine cw_new (k := 3) (c1 := .inr (.inl (13, [.null, .int 0, .int 0]))) (pc1 := 19) rfl rfl rfl rfl ?_
          have g20 : (va_up (va_up (va_up (va_up (va_up G8 N8 (.inr (.inl (8, [.null, .null, .null])))) (N8 + 1) (.inr (.inl (13, [.null, .int 0, .int 0])))) (N8 + 1) (.inr (.inl (13, [.ref 1, .int 0, .int 0])))) N8 (.inr (.inl (8, [.null, .ref (N8 + 1), .null])))) (N8 + 1 + 1) (.inr (.inl (13, [.null, .int 0, .int 0])))) (N8 + 1) = .inr (.inl (13, [.ref 1, .int 0, .int 0])) := (va_ne (by omega)).trans g18
          have g21 : (va_up (va_up (va_up (va_up (va_up G8 N8 (.inr (.inl (8, [.null, .null, .null])))) (N8 + 1) (.inr (.inl (13, [.null, .int 0, .int 0])))) (N8 + 1) (.inr (.inl (13, [.ref 1, .int 0, .int 0])))) N8 (.inr (.inl (8, [.null, .ref (N8 + 1), .null])))) (N8 + 1 + 1) (.inr (.inl (13, [.null, .int 0, .int 0])))) N8 = .inr (.inl (8, [.null, .ref (N8 + 1), .null])) := (va_ne (by omega)).trans g19
          have g22 : (va_up (va_up (va_up (va_up (va_up G8 N8 (.inr (.inl (8, [.null, .null, .null])))) (N8 + 1) (.inr (.inl (13, [.null, .int 0, .int 0])))) (N8 + 1) (.inr (.inl (13, [.ref 1, .int 0, .int 0])))) N8 (.inr (.inl (8, [.null, .ref (N8 + 1), .null])))) (N8 + 1 + 1) (.inr (.inl (13, [.null, .int 0, .int 0])))) (N8 + 1 + 1) = .inr (.inl (13, [.null, .int 0, .int 0])) := up_eq
          refine w_mv (pc1 := 20) (st1 := [.ref (N8 + 1 + 1), .ref (N8 + 1 + 1), .ref N8]) rfl rfl rfl ?_
          refine w_call (M' := sM_160) (vals := [.ref (N8 + 1 + 1)]) (rest := [.ref (N8 + 1 + 1), .ref N8]) (lv' := [(0, .ref (N8 + 1 + 1))]) rfl rfl rfl rfl rfl rfl rfl rfl rfl rfl ?_
          refine w_mv (pc1 := 1) (st1 := [.ref (N8 + 1 + 1)]) rfl rfl rfl ?_
          refine w_call (M' := sM_161) (vals := [.ref (N8 + 1 + 1)]) (rest := []) (lv' := [(0, .ref (N8 + 1 + 1))]) rfl rfl rfl rfl rfl rfl rfl rfl rfl rfl ?_
          refine w_mv (pc1 := 1) (st1 := [.ref (N8 + 1 + 1)]) rfl rfl rfl ?_
          refine w_call (M' := sM_162) (vals := [.ref (N8 + 1 + 1)]) (rest := []) (lv' := [(0, .ref (N8 + 1 + 1))]) rfl rfl rfl rfl rfl rfl rfl rfl rfl rfl ?_
          refine w_mv (pc1 := 1) (st1 := [.ref (N8 + 1 + 1)]) rfl rfl rfl ?_
          refine w_obj (pc1 := 4) (st1 := []) rfl rfl rfl ⟨by omega, Nat.le_of_ble_eq_true rfl⟩ rfl ?_
          refine w_vret (pc1 := 4) rfl rfl rfl ?_
          refine w_mv (pc1 := 5) (st1 := [.ref (N8 + 1 + 1)]) rfl rfl rfl ?_
          refine w_mv (pc1 := 6) (st1 := [.int 0, .ref (N8 + 1 + 1)]) rfl rfl rfl ?_
          refine cw_pf (c1 := .inr (.inl (13, [.null, .int 0, .int 0]))) (pc1 := 9) rfl (by omega) (by omega) g22 rfl rfl rfl rfl ?_
          have g23 : (va_up (va_up (va_up (va_up (va_up (va_up G8 N8 (.inr (.inl (8, [.null, .null, .null])))) (N8 + 1) (.inr (.inl (13, [.null, .int 0, .int 0])))) (N8 + 1) (.inr (.inl (13, [.ref 1, .int 0, .int 0])))) N8 (.inr (.inl (8, [.null, .ref (N8 + 1), .null])))) (N8 + 1 + 1) (.inr (.inl (13, [.null, .int 0, .int 0])))) (N8 + 1 + 1) (.inr (.inl (13, [.null, .int 0, .int 0])))) N8 = .inr (.inl (8, [.null, .ref (N8 + 1), .null])) := (va_ne (ne_ob g21 g22 (by decide))).trans g21
          have g24 : (va_up (va_up (va_up (va_up (va_up (va_up G8 N8 (.inr (.inl (8, [.null, .null, .null])))) (N8 + 1) (.inr (.inl (13, [.null, .int 0, .int 0])))) (N8 + 1) (.inr (.inl (13, [.ref 1, .int 0, .int 0])))) N8 (.inr (.inl (8, [.null, .ref (N8 + 1), .null])))) (N8 + 1 + 1) (.inr (.inl (13, [.null, .int 0, .int 0])))) (N8 + 1 + 1) (.inr (.inl (13, [.null, .int 0, .int 0])))) (N8 + 1 + 1) = .inr (.inl (13, [.null, .int 0, .int 0])) := up_eq
          refine w_vret (pc1 := 4) rfl rfl rfl ?_
          refine w_mv (pc1 := 5) (st1 := [.ref (N8 + 1 + 1)]) rfl rfl rfl ?_
          refine w_mv (pc1 := 8) (st1 := [.ref 1, .ref (N8 + 1 + 1)]) rfl rfl rfl ?_
          refine cw_pf (c1 := .inr (.inl (13, [.ref 1, .int 0, .int 0]))) (pc1 := 11) rfl (by omega) (by omega) g24 rfl rfl rfl rfl ?_
          rw [va_uu]
          have g25 : (va_up (va_up (va_up (va_up (va_up (va_up G8 N8 (.inr (.inl (8, [.null, .null, .null])))) (N8 + 1) (.inr (.inl (13, [.null, .int 0, .int 0])))) (N8 + 1) (.inr (.inl (13, [.ref 1, .int 0, .int 0])))) N8 (.inr (.inl (8, [.null, .ref (N8 + 1), .null])))) (N8 + 1 + 1) (.inr (.inl (13, [.null, .int 0, .int 0])))) (N8 + 1 + 1) (.inr (.inl (13, [.ref 1, .int 0, .int 0])))) N8 = .inr (.inl (8, [.null, .ref (N8 + 1), .null])) := (va_ne (ne_ob g23 g24 (by decide))).trans ((va_ne (ne_ob g23 g24 (by decide))).symm.trans g23)
          have g26 : (va_up (va_up (va_up (va_up (va_up (va_up G8 N8 (.inr (.inl (8, [.null, .null, .null])))) (N8 + 1) (.inr (.inl (13, [.null, .int 0, .int 0])))) (N8 + 1) (.inr (.inl (13, [.ref 1, .int 0, .int 0])))) N8 (.inr (.inl (8, [.null, .ref (N8 + 1), .null])))) (N8 + 1 + 1) (.inr (.inl (13, [.null, .int 0, .int 0])))) (N8 + 1 + 1) (.inr (.inl (13, [.ref 1, .int 0, .int 0])))) (N8 + 1 + 1) = .inr (.inl (13, [.ref 1, .int 0, .int 0])) := up_eq
          refine w_vret (pc1 := 23) rfl rfl rfl ?_
          refine cw_pf (c1 := .inr (.inl (8, [.null, .ref (N8 + 1), .ref (N8 + 1 + 1)]))) (pc1 := 26) rfl (by omega) (by omega) g25 rfl rfl rfl rfl ?_
          have g27 : (va_up (va_up (va_up (va_up (va_up (va_up (va_up G8 N8 (.inr (.inl (8, [.null, .null, .null])))) (N8 + 1) (.inr (.inl (13, [.null, .int 0, .int 0])))) (N8 + 1) (.inr (.inl (13, [.ref 1, .int 0, .int 0])))) N8 (.inr (.inl (8, [.null, .ref (N8 + 1), .null])))) (N8 + 1 + 1) (.inr (.inl (13, [.null, .int 0, .int 0])))) (N8 + 1 + 1) (.inr (.inl (13, [.ref 1, .int 0, .int 0])))) N8 (.inr (.inl (8, [.null, .ref (N8 + 1), .ref (N8 + 1 + 1)])))) (N8 + 1 + 1) = .inr (.inl (13, [.ref 1, .int 0, .int 0])) := (va_ne (ne_ob g26 g25 (by decide))).trans g26
          have g28 : (va_up (va_up (va_up (va_up (va_up (va_up (va_up G8 N8 (.inr (.inl (8, [.null, .null, .null])))) (N8 + 1) (.inr (.inl (13, [.null, .int 0, .int 0])))) (N8 + 1) (.inr (.inl (13, [.ref 1, .int 0, .int 0])))) N8 (.inr (.inl (8, [.null, .ref (N8 + 1), .null])))) (N8 + 1 + 1) (.inr (.inl (13, [.null, .int 0, .int 0])))) (N8 + 1 + 1) (.inr (.inl (13, [.ref 1, .int 0, .int 0])))) N8 (.inr (.inl (8, [.null, .ref (N8 + 1), .ref (N8 + 1 + 1)])))) N8 = .inr (.inl (8, [.null, .ref (N8 + 1), .ref (N8 + 1 + 1)])) := up_eq
          refine w_mv (pc1 := 27) (st1 := [.ref N8]) rfl rfl rfl ?_
          refine w_mv (pc1 := 28) (st1 := [.ref x9, .ref N8]) rfl rfl rfl ?_
          refine cw_pf (c1 := .inr (.inl (8, [.ref x9, .ref (N8 + 1), .ref (N8 + 1 + 1)]))) (pc1 := 31) rfl (by omega) (by omega) g28 rfl rfl rfl rfl ?_
          rw [va_uu]
          have g29 : (va_up (va_up (va_up (va_up (va_up (va_up (va_up G8 N8 (.inr (.inl (8, [.null, .null, .null])))) (N8 + 1) (.inr (.inl (13, [.null, .int 0, .int 0])))) (N8 + 1) (.inr (.inl (13, [.ref 1, .int 0, .int 0])))) N8 (.inr (.inl (8, [.null, .ref (N8 + 1), .null])))) (N8 + 1 + 1) (.inr (.inl (13, [.null, .int 0, .int 0])))) (N8 + 1 + 1) (.inr (.inl (13, [.ref 1, .int 0, .int 0])))) N8 (.inr (.inl (8, [.ref x9, .ref (N8 + 1), .ref (N8 + 1 + 1)])))) (N8 + 1 + 1) = .inr (.inl (13, [.ref 1, .int 0, .int 0])) := (va_ne (ne_ob g27 g28 (by decide))).trans ((va_ne (ne_ob g27 g28 (by decide))).symm.trans g27)
          have g30 : (va_up (va_up (va_up (va_up (va_up (va_up (va_up G8 N8 (.inr (.inl (8, [.null, .null, .null])))) (N8 + 1) (.inr (.inl (13, [.null, .int 0, .int 0])))) (N8 + 1) (.inr (.inl (13, [.ref 1, .int 0, .int 0])))) N8 (.inr (.inl (8, [.null, .ref (N8 + 1), .null])))) (N8 + 1 + 1) (.inr (.inl (13, [.null, .int 0, .int 0])))) (N8 + 1 + 1) (.inr (.inl (13, [.ref 1, .int 0, .int 0])))) N8 (.inr (.inl (8, [.ref x9, .ref (N8 + 1), .ref (N8 + 1 + 1)])))) N8 = .inr (.inl (8, [.ref x9, .ref (N8 + 1), .ref (N8 + 1 + 1)])) := up_eq
          refine w_vret (pc1 := 39) rfl rfl rfl ?_
          refine w_mv (pc1 := 40) (lv1 := [(2, .ref N8), (1, .ref x9), (0, .ref 6)]) (st1 := []) rfl rfl rfl ?_
          refine w_mv (pc1 := 41) (st1 := [.ref 6]) rfl rfl rfl ?_
          refine w_mv (pc1 := 43) (st1 := [.int 58, .ref 6]) rfl rfl rfl ?_
          obtain ⟨b31b, i31_1, i31_2, g31, hh⟩ := hh
          refine w_call (M' := sM_32) (vals := [.ref 6, .int 58]) (rest := []) (lv' := [(0, .ref 6), (1, .int 58)]) rfl rfl rfl rfl rfl rfl (cH_rcv (by omega) (by omega) g31) rfl rfl rfl ?_
          refine w_mv (pc1 := 1) (st1 := [.ref 6]) rfl rfl rfl ?_
          refine cw_gf (v := .int i31_2) (pc1 := 4) rfl (by omega) (by omega) g31 rfl rfl ?_
          refine w_mv (pc1 := 5) (st1 := [.ref 6, .int i31_2]) rfl rfl rfl ?_
          refine cw_gf (v := .int i31_1) (pc1 := 8) rfl (by omega) (by omega) g31 rfl rfl ?_
          by_cases h32 : i31_1.toInt ≤ i31_2.toInt
          ·
            replace hh := hh.1 h32
            refine w_ige_T (pc1 := 24) rfl rfl (show i31_1.toInt ≤ i31_2.toInt from h32) ?_
            refine w_mv (pc1 := 25) (st1 := [.int 0]) rfl rfl rfl ?_
            refine w_iret (pc1 := 46) rfl rfl rfl rfl ?_
            refine w_mv (pc1 := 63) (st1 := []) rfl rfl rfl ?_
            refine w_mv (pc1 := 64) (st1 := [.ref 6]) rfl rfl rfl ?_
            refine w_mv (pc1 := 66) (st1 := [.int 124, .ref 6]) rfl rfl rfl ?_
            refine w_call (M' := sM_32) (vals := [.ref 6, .int 124]) (rest := []) (lv' := [(0, .ref 6), (1, .int 124)]) rfl rfl rfl rfl rfl rfl (cH_rcv (by omega) (by omega) g31) rfl rfl rfl ?_
            refine w_mv (pc1 := 1) (st1 := [.ref 6]) rfl rfl rfl ?_
            refine cw_gf (v := .int i31_2) (pc1 := 4) rfl (by omega) (by omega) g31 rfl rfl ?_
            refine w_mv (pc1 := 5) (st1 := [.ref 6, .int i31_2]) rfl rfl rfl ?_
            refine cw_gf (v := .int i31_1) (pc1 := 8) rfl (by omega) (by omega) g31 rfl rfl ?_
            by_cases h33 : i31_1.toInt ≤ i31_2.toInt
            ·
              replace hh := hh.1 h33
              refine w_ige_T (pc1 := 24) rfl rfl (show i31_1.toInt ≤ i31_2.toInt from h33) ?_
              refine w_mv (pc1 := 25) (st1 := [.int 0]) rfl rfl rfl ?_
              refine w_iret (pc1 := 69) rfl rfl rfl rfl ?_
              refine w_mv (pc1 := 86) (st1 := []) rfl rfl rfl ?_
              refine w_mv (pc1 := 87) (st1 := [.ref 6]) rfl rfl rfl ?_
              refine cw_gf (v := .int i31_2) (pc1 := 90) rfl (by omega) (by omega) g31 rfl rfl ?_
              refine w_mv (pc1 := 91) (st1 := [.ref 6, .int i31_2]) rfl rfl rfl ?_
              refine cw_gf (v := .int i31_1) (pc1 := 94) rfl (by omega) (by omega) g31 rfl rfl ?_
              by_cases h34 : i31_2.toInt = i31_1.toInt
              ·
                replace hh := hh.2 h34
                refine w_ine_F (pc1 := 97) rfl (by decide) rfl (show i31_2.toInt = i31_1.toInt from h34) ?_
                refine w_mv (pc1 := 98) (st1 := [.ref N8]) rfl rfl rfl ?_
                refine w_mv (pc1 := 102) (st1 := [.ref N8]) rfl rfl rfl ?_
                refine sx_wp.stop rfl rfl rfl ?_
                exact c_acc (hP _ _ _ _ _ hh) (by omega) (by omega)
              ·
                replace hh := hh.1 h34
                refine w_ine_T (pc1 := 101) rfl rfl (show i31_2.toInt ≠ i31_1.toInt from h34) ?_
                refine w_mv (pc1 := 102) (st1 := [.null]) rfl rfl rfl ?_
                refine sx_wp.stop rfl rfl rfl ?_
                exact c_acc (hP _ _ _ _ _ hh) (by omega) (by omega)
            ·
              replace hh := hh.2 (Int.not_le.mp h33)
              refine w_ige_F (pc1 := 11) rfl (by decide) rfl (show i31_2.toInt < i31_1.toInt from (Int.not_le.mp h33)) ?_
              refine w_mv (pc1 := 12) (st1 := [.ref 6]) rfl rfl rfl ?_
              refine cw_gf (v := .ref 7) (pc1 := 15) rfl (by omega) (by omega) g31 rfl rfl ?_
              refine w_mv (pc1 := 16) (st1 := [.ref 6, .ref 7]) rfl rfl rfl ?_
              refine cw_gf (v := .int i31_2) (pc1 := 19) rfl (by omega) (by omega) g31 rfl rfl ?_
              obtain ⟨b35b, f35, g35, hh⟩ := hh
              obtain ⟨q36a, q36b, hh⟩ := hh
              refine cw_bld (pc1 := 20) rfl (by omega) g35 q36a q36b rfl ?_
              refine w_mv (pc1 := 21) (st1 := [.int 124, .int (f35 i31_2.toNatClampNeg)]) rfl rfl rfl ?_
              by_cases h37 : (f35 i31_2.toNatClampNeg).toInt = 124
              ·
                replace hh := hh.1 h37
                refine w_ieq_T (pc1 := 26) rfl rfl (show (f35 i31_2.toNatClampNeg).toInt = 124 from h37) ?_
                refine w_mv (pc1 := 27) (st1 := [.ref 6]) rfl rfl rfl ?_
                refine w_mv (pc1 := 28) (st1 := [.ref 6, .ref 6]) rfl rfl rfl ?_
                refine cw_gf (v := .int i31_2) (pc1 := 31) rfl (by omega) (by omega) g31 rfl rfl ?_
                refine w_mv (pc1 := 32) (st1 := [.int 1, .int i31_2, .ref 6]) rfl rfl rfl ?_
                refine w_mv (pc1 := 33) (st1 := [.int (i31_2 + 1), .ref 6]) rfl rfl rfl ?_
                refine cw_pf (c1 := .inr (.inl (1, [.ref 7, .int i31_1, .int (i31_2 + 1)]))) (pc1 := 36) rfl (by omega) (by omega) g31 rfl rfl rfl rfl ?_
                have g38 : (va_up (va_up (va_up (va_up (va_up (va_up (va_up (va_up G8 N8 (.inr (.inl (8, [.null, .null, .null])))) (N8 + 1) (.inr (.inl (13, [.null, .int 0, .int 0])))) (N8 + 1) (.inr (.inl (13, [.ref 1, .int 0, .int 0])))) N8 (.inr (.inl (8, [.null, .ref (N8 + 1), .null])))) (N8 + 1 + 1) (.inr (.inl (13, [.null, .int 0, .int 0])))) (N8 + 1 + 1) (.inr (.inl (13, [.ref 1, .int 0, .int 0])))) N8 (.inr (.inl (8, [.ref x9, .ref (N8 + 1), .ref (N8 + 1 + 1)])))) 6 (.inr (.inl (1, [.ref 7, .int i31_1, .int (i31_2 + 1)])))) (N8 + 1 + 1) = .inr (.inl (13, [.ref 1, .int 0, .int 0])) := (va_ne (ne_ob g29 g31 (by decide))).trans g29
                have g39 : (va_up (va_up (va_up (va_up (va_up (va_up (va_up (va_up G8 N8 (.inr (.inl (8, [.null, .null, .null])))) (N8 + 1) (.inr (.inl (13, [.null, .int 0, .int 0])))) (N8 + 1) (.inr (.inl (13, [.ref 1, .int 0, .int 0])))) N8 (.inr (.inl (8, [.null, .ref (N8 + 1), .null])))) (N8 + 1 + 1) (.inr (.inl (13, [.null, .int 0, .int 0])))) (N8 + 1 + 1) (.inr (.inl (13, [.ref 1, .int 0, .int 0])))) N8 (.inr (.inl (8, [.ref x9, .ref (N8 + 1), .ref (N8 + 1 + 1)])))) 6 (.inr (.inl (1, [.ref 7, .int i31_1, .int (i31_2 + 1)])))) N8 = .inr (.inl (8, [.ref x9, .ref (N8 + 1), .ref (N8 + 1 + 1)])) := (va_ne (ne_ob g30 g31 (by decide))).trans g30
                have g40 : (va_up (va_up (va_up (va_up (va_up (va_up (va_up (va_up G8 N8 (.inr (.inl (8, [.null, .null, .null])))) (N8 + 1) (.inr (.inl (13, [.null, .int 0, .int 0])))) (N8 + 1) (.inr (.inl (13, [.ref 1, .int 0, .int 0])))) N8 (.inr (.inl (8, [.null, .ref (N8 + 1), .null])))) (N8 + 1 + 1) (.inr (.inl (13, [.null, .int 0, .int 0])))) (N8 + 1 + 1) (.inr (.inl (13, [.ref 1, .int 0, .int 0])))) N8 (.inr (.inl (8, [.ref x9, .ref (N8 + 1), .ref (N8 + 1 + 1)])))) 6 (.inr (.inl (1, [.ref 7, .int i31_1, .int (i31_2 + 1)])))) 7 = .inl (1, (48, .inl f35)) := (va_ne (ne_ao g35 g31)).trans g35
                have g41 : (va_up (va_up (va_up (va_up (va_up (va_up (va_up (va_up G8 N8 (.inr (.inl (8, [.null, .null, .null])))) (N8 + 1) (.inr (.inl (13, [.null, .int 0, .int 0])))) (N8 + 1) (.inr (.inl (13, [.ref 1, .int 0, .int 0])))) N8 (.inr (.inl (8, [.null, .ref (N8 + 1), .null])))) (N8 + 1 + 1) (.inr (.inl (13, [.null, .int 0, .int 0])))) (N8 + 1 + 1) (.inr (.inl (13, [.ref 1, .int 0, .int 0])))) N8 (.inr (.inl (8, [.ref x9, .ref (N8 + 1), .ref (N8 + 1 + 1)])))) 6 (.inr (.inl (1, [.ref 7, .int i31_1, .int (i31_2 + 1)])))) 6 = .inr (.inl (1, [.ref 7, .int i31_1, .int (i31_2 + 1)])) := up_eq
                refine w_mv (pc1 := 37) (st1 := [.int 1]) rfl rfl rfl ?_
                refine w_iret (pc1 := 69) rfl rfl rfl rfl ?_
                refine w_mv (pc1 := 72) (st1 := []) rfl rfl rfl ?_
                refine w_mv (pc1 := 73) (st1 := [.ref 6]) rfl rfl rfl ?_
                refine w_mv (pc1 := 74) (st1 := [.ref N8, .ref 6]) rfl rfl rfl ?_
                refine cw_gf (v := .ref (N8 + 1 + 1)) (pc1 := 77) rfl (by omega) (by omega) g39 rfl rfl ?_
                refine w_mv (pc1 := 78) (st1 := [.int 0, .ref (N8 + 1 + 1), .ref 6]) rfl rfl rfl ?_
                refine w_call (M' := sM_36) (vals := [.ref 6, .ref (N8 + 1 + 1), .int 0]) (rest := []) (lv' := [(0, .ref 6), (1, .ref (N8 + 1 + 1)), (2, .int 0)]) rfl rfl rfl rfl rfl rfl (cH_rcv (by omega) (by omega) g41) rfl rfl rfl ?_
                refine hh _ _ _ _ (fun r42 N42 G42 kc42 ks42 hh => ?_)
                obtain ⟨v42, er42, hh⟩ := hh
                subst er42
                refine w_ki (pc1 := 81) rfl ?_
                by_cases h43 : v42.toInt = 0
                ·
                  replace hh := hh.2 h43
                  refine w_zne_F (pc1 := 84) rfl (by decide) rfl (show v42.toInt = 0 from h43) ?_
                  refine w_mv (pc1 := 85) (st1 := [.null]) rfl rfl rfl ?_
                  refine sx_wp.stop rfl rfl rfl ?_
                  exact c_acc (hP _ _ _ _ _ hh) (by omega) (by omega)
                ·
                  replace hh := hh.1 h43
                  refine w_zne_T (pc1 := 86) rfl rfl (show v42.toInt ≠ 0 from h43) ?_
                  refine w_mv (pc1 := 87) (st1 := [.ref 6]) rfl rfl rfl ?_
                  obtain ⟨b44b, i44_1, i44_2, g44, hh⟩ := hh
                  refine cw_gf (v := .int i44_2) (pc1 := 90) rfl (by omega) (by omega) g44 rfl rfl ?_
                  refine w_mv (pc1 := 91) (st1 := [.ref 6, .int i44_2]) rfl rfl rfl ?_
                  refine cw_gf (v := .int i44_1) (pc1 := 94) rfl (by omega) (by omega) g44 rfl rfl ?_
                  by_cases h45 : i44_2.toInt = i44_1.toInt
                  ·
                    replace hh := hh.2 h45
                    refine w_ine_F (pc1 := 97) rfl (by decide) rfl (show i44_2.toInt = i44_1.toInt from h45) ?_
                    refine w_mv (pc1 := 98) (st1 := [.ref N8]) rfl rfl rfl ?_
                    refine w_mv (pc1 := 102) (st1 := [.ref N8]) rfl rfl rfl ?_
                    refine sx_wp.stop rfl rfl rfl ?_
                    exact c_acc (hP _ _ _ _ _ hh) (by omega) (by omega)
                  ·
                    replace hh := hh.1 h45
                    refine w_ine_T (pc1 := 101) rfl rfl (show i44_2.toInt ≠ i44_1.toInt from h45) ?_
                    refine w_mv (pc1 := 102) (st1 := [.null]) rfl rfl rfl ?_
                    refine sx_wp.stop rfl rfl rfl ?_
                    exact c_acc (hP _ _ _ _ _ hh) (by omega) (by omega)
              ·
                replace hh := hh.2 h37
                refine w_ieq_F (pc1 := 24) rfl (by decide) rfl (show (f35 i31_2.toNatClampNeg).toInt ≠ 124 from h37) ?_
                refine w_mv (pc1 := 25) (st1 := [.int 0]) rfl rfl rfl ?_
                refine w_iret (pc1 := 69) rfl rfl rfl rfl ?_
                refine w_mv (pc1 := 86) (st1 := []) rfl rfl rfl ?_
                refine w_mv (pc1 := 87) (st1 := [.ref 6]) rfl rfl rfl ?_
                refine cw_gf (v := .int i31_2) (pc1 := 90) rfl (by omega) (by omega) g31 rfl rfl ?_
                refine w_mv (pc1 := 91) (st1 := [.ref 6, .int i31_2]) rfl rfl rfl ?_
                refine cw_gf (v := .int i31_1) (pc1 := 94) rfl (by omega) (by omega) g31 rfl rfl ?_
                by_cases h46 : i31_2.toInt = i31_1.toInt
                ·
                  replace hh := hh.2 h46
                  refine w_ine_F (pc1 := 97) rfl (by decide) rfl (show i31_2.toInt = i31_1.toInt from h46) ?_
                  refine w_mv (pc1 := 98) (st1 := [.ref N8]) rfl rfl rfl ?_
                  refine w_mv (pc1 := 102) (st1 := [.ref N8]) rfl rfl rfl ?_
                  refine sx_wp.stop rfl rfl rfl ?_
                  exact c_acc (hP _ _ _ _ _ hh) (by omega) (by omega)
                ·
                  replace hh := hh.1 h46
                  refine w_ine_T (pc1 := 101) rfl rfl (show i31_2.toInt ≠ i31_1.toInt from h46) ?_
                  refine w_mv (pc1 := 102) (st1 := [.null]) rfl rfl rfl ?_
                  refine sx_wp.stop rfl rfl rfl ?_
                  exact c_acc (hP _ _ _ _ _ hh) (by omega) (by omega)
          ·
            replace hh := hh.2 (Int.not_le.mp h32)
            refine w_ige_F (pc1 := 11) rfl (by decide) rfl (show i31_2.toInt < i31_1.toInt from (Int.not_le.mp h32)) ?_
            refine w_mv (pc1 := 12) (st1 := [.ref 6]) rfl rfl rfl ?_
            refine cw_gf (v := .ref 7) (pc1 := 15) rfl (by omega) (by omega) g31 rfl rfl ?_
            refine w_mv (pc1 := 16) (st1 := [.ref 6, .ref 7]) rfl rfl rfl ?_
            refine cw_gf (v := .int i31_2) (pc1 := 19) rfl (by omega) (by omega) g31 rfl rfl ?_
            obtain ⟨b47b, f47, g47, hh⟩ := hh
            obtain ⟨q48a, q48b, hh⟩ := hh
            refine cw_bld (pc1 := 20) rfl (by omega) g47 q48a q48b rfl ?_
            refine w_mv (pc1 := 21) (st1 := [.int 58, .int (f47 i31_2.toNatClampNeg)]) rfl rfl rfl ?_
            by_cases h49 : (f47 i31_2.toNatClampNeg).toInt = 58
            ·
              replace hh := hh.1 h49
              refine w_ieq_T (pc1 := 26) rfl rfl (show (f47 i31_2.toNatClampNeg).toInt = 58 from h49) ?_
              refine w_mv (pc1 := 27) (st1 := [.ref 6]) rfl rfl rfl ?_
              refine w_mv (pc1 := 28) (st1 := [.ref 6, .ref 6]) rfl rfl rfl ?_
              refine cw_gf (v := .int i31_2) (pc1 := 31) rfl (by omega) (by omega) g31 rfl rfl ?_
              refine w_mv (pc1 := 32) (st1 := [.int 1, .int i31_2, .ref 6]) rfl rfl rfl ?_
              refine w_mv (pc1 := 33) (st1 := [.int (i31_2 + 1), .ref 6]) rfl rfl rfl ?_
              refine cw_pf (c1 := .inr (.inl (1, [.ref 7, .int i31_1, .int (i31_2 + 1)]))) (pc1 := 36) rfl (by omega) (by omega) g31 rfl rfl rfl rfl ?_
              have g50 : (va_up (va_up (va_up (va_up (va_up (va_up (va_up (va_up G8 N8 (.inr (.inl (8, [.null, .null, .null])))) (N8 + 1) (.inr (.inl (13, [.null, .int 0, .int 0])))) (N8 + 1) (.inr (.inl (13, [.ref 1, .int 0, .int 0])))) N8 (.inr (.inl (8, [.null, .ref (N8 + 1), .null])))) (N8 + 1 + 1) (.inr (.inl (13, [.null, .int 0, .int 0])))) (N8 + 1 + 1) (.inr (.inl (13, [.ref 1, .int 0, .int 0])))) N8 (.inr (.inl (8, [.ref x9, .ref (N8 + 1), .ref (N8 + 1 + 1)])))) 6 (.inr (.inl (1, [.ref 7, .int i31_1, .int (i31_2 + 1)])))) (N8 + 1 + 1) = .inr (.inl (13, [.ref 1, .int 0, .int 0])) := (va_ne (ne_ob g29 g31 (by decide))).trans g29
              have g51 : (va_up (va_up (va_up (va_up (va_up (va_up (va_up (va_up G8 N8 (.inr (.inl (8, [.null, .null, .null])))) (N8 + 1) (.inr (.inl (13, [.null, .int 0, .int 0])))) (N8 + 1) (.inr (.inl (13, [.ref 1, .int 0, .int 0])))) N8 (.inr (.inl (8, [.null, .ref (N8 + 1), .null])))) (N8 + 1 + 1) (.inr (.inl (13, [.null, .int 0, .int 0])))) (N8 + 1 + 1) (.inr (.inl (13, [.ref 1, .int 0, .int 0])))) N8 (.inr (.inl (8, [.ref x9, .ref (N8 + 1), .ref (N8 + 1 + 1)])))) 6 (.inr (.inl (1, [.ref 7, .int i31_1, .int (i31_2 + 1)])))) N8 = .inr (.inl (8, [.ref x9, .ref (N8 + 1), .ref (N8 + 1 + 1)])) := (va_ne (ne_ob g30 g31 (by decide))).trans g30
              have g52 : (va_up (va_up (va_up (va_up (va_up (va_up (va_up (va_up G8 N8 (.inr (.inl (8, [.null, .null, .null])))) (N8 + 1) (.inr (.inl (13, [.null, .int 0, .int 0])))) (N8 + 1) (.inr (.inl (13, [.ref 1, .int 0, .int 0])))) N8 (.inr (.inl (8, [.null, .ref (N8 + 1), .null])))) (N8 + 1 + 1) (.inr (.inl (13, [.null, .int 0, .int 0])))) (N8 + 1 + 1) (.inr (.inl (13, [.ref 1, .int 0, .int 0])))) N8 (.inr (.inl (8, [.ref x9, .ref (N8 + 1), .ref (N8 + 1 + 1)])))) 6 (.inr (.inl (1, [.ref 7, .int i31_1, .int (i31_2 + 1)])))) 7 = .inl (1, (48, .inl f47)) := (va_ne (ne_ao g47 g31)).trans g47
              have g53 : (va_up (va_up (va_up (va_up (va_up (va_up (va_up (va_up G8 N8 (.inr (.inl (8, [.null, .null, .null])))) (N8 + 1) (.inr (.inl (13, [.null, .int 0, .int 0])))) (N8 + 1) (.inr (.inl (13, [.ref 1, .int 0, .int 0])))) N8 (.inr (.inl (8, [.null, .ref (N8 + 1), .null])))) (N8 + 1 + 1) (.inr (.inl (13, [.null, .int 0, .int 0])))) (N8 + 1 + 1) (.inr (.inl (13, [.ref 1, .int 0, .int 0])))) N8 (.inr (.inl (8, [.ref x9, .ref (N8 + 1), .ref (N8 + 1 + 1)])))) 6 (.inr (.inl (1, [.ref 7, .int i31_1, .int (i31_2 + 1)])))) 6 = .inr (.inl (1, [.ref 7, .int i31_1, .int (i31_2 + 1)])) := up_eq
              refine w_mv (pc1 := 37) (st1 := [.int 1]) rfl rfl rfl ?_
              refine w_iret (pc1 := 46) rfl rfl rfl rfl ?_
              refine w_mv (pc1 := 49) (st1 := []) rfl rfl rfl ?_
              refine w_mv (pc1 := 50) (st1 := [.ref 6]) rfl rfl rfl ?_
              refine w_mv (pc1 := 51) (st1 := [.ref N8, .ref 6]) rfl rfl rfl ?_
              refine cw_gf (v := .ref (N8 + 1)) (pc1 := 54) rfl (by omega) (by omega) g51 rfl rfl ?_
              refine w_mv (pc1 := 55) (st1 := [.int 1, .ref (N8 + 1), .ref 6]) rfl rfl rfl ?_
              refine w_call (M' := sM_36) (vals := [.ref 6, .ref (N8 + 1), .int 1]) (rest := []) (lv' := [(0, .ref 6), (1, .ref (N8 + 1)), (2, .int 1)]) rfl rfl rfl rfl rfl rfl (cH_rcv (by omega) (by omega) g53) rfl rfl rfl ?_
              refine hh _ _ _ _ (fun r54 N54 G54 kc54 ks54 hh => ?_)
              obtain ⟨v54, er54, hh⟩ := hh
              subst er54
              refine w_ki (pc1 := 58) rfl ?_
              by_cases h55 : v54.toInt = 0
              ·
                replace hh := hh.2 h55
                refine w_zne_F (pc1 := 61) rfl (by decide) rfl (show v54.toInt = 0 from h55) ?_
                refine w_mv (pc1 := 62) (st1 := [.null]) rfl rfl rfl ?_
                refine sx_wp.stop rfl rfl rfl ?_
                exact c_acc (hP _ _ _ _ _ hh) (by omega) (by omega)
              ·
                replace hh := hh.1 h55
                refine w_zne_T (pc1 := 63) rfl rfl (show v54.toInt ≠ 0 from h55) ?_
                refine w_mv (pc1 := 64) (st1 := [.ref 6]) rfl rfl rfl ?_
                refine w_mv (pc1 := 66) (st1 := [.int 124, .ref 6]) rfl rfl rfl ?_
                obtain ⟨b56b, i56_1, i56_2, g56, hh⟩ := hh
                refine w_call (M' := sM_32) (vals := [.ref 6, .int 124]) (rest := []) (lv' := [(0, .ref 6), (1, .int 124)]) rfl rfl rfl rfl rfl rfl (cH_rcv (by omega) (by omega) g56) rfl rfl rfl ?_
                refine w_mv (pc1 := 1) (st1 := [.ref 6]) rfl rfl rfl ?_
                refine cw_gf (v := .int i56_2) (pc1 := 4) rfl (by omega) (by omega) g56 rfl rfl ?_
                refine w_mv (pc1 := 5) (st1 := [.ref 6, .int i56_2]) rfl rfl rfl ?_
                refine cw_gf (v := .int i56_1) (pc1 := 8) rfl (by omega) (by omega) g56 rfl rfl ?_
                by_cases h57 : i56_1.toInt ≤ i56_2.toInt
                ·
                  replace hh := hh.1 h57
                  refine w_ige_T (pc1 := 24) rfl rfl (show i56_1.toInt ≤ i56_2.toInt from h57) ?_
                  refine w_mv (pc1 := 25) (st1 := [.int 0]) rfl rfl rfl ?_
                  refine w_iret (pc1 := 69) rfl rfl rfl rfl ?_
                  refine w_mv (pc1 := 86) (st1 := []) rfl rfl rfl ?_
                  refine w_mv (pc1 := 87) (st1 := [.ref 6]) rfl rfl rfl ?_
                  refine cw_gf (v := .int i56_2) (pc1 := 90) rfl (by omega) (by omega) g56 rfl rfl ?_
                  refine w_mv (pc1 := 91) (st1 := [.ref 6, .int i56_2]) rfl rfl rfl ?_
                  refine cw_gf (v := .int i56_1) (pc1 := 94) rfl (by omega) (by omega) g56 rfl rfl ?_
                  by_cases h58 : i56_2.toInt = i56_1.toInt
                  ·
                    replace hh := hh.2 h58
                    refine w_ine_F (pc1 := 97) rfl (by decide) rfl (show i56_2.toInt = i56_1.toInt from h58) ?_
                    refine w_mv (pc1 := 98) (st1 := [.ref N8]) rfl rfl rfl ?_
                    refine w_mv (pc1 := 102) (st1 := [.ref N8]) rfl rfl rfl ?_
                    refine sx_wp.stop rfl rfl rfl ?_
                    exact c_acc (hP _ _ _ _ _ hh) (by omega) (by omega)
                  ·
                    replace hh := hh.1 h58
                    refine w_ine_T (pc1 := 101) rfl rfl (show i56_2.toInt ≠ i56_1.toInt from h58) ?_
                    refine w_mv (pc1 := 102) (st1 := [.null]) rfl rfl rfl ?_
                    refine sx_wp.stop rfl rfl rfl ?_
                    exact c_acc (hP _ _ _ _ _ hh) (by omega) (by omega)
                ·
                  replace hh := hh.2 (Int.not_le.mp h57)
                  refine w_ige_F (pc1 := 11) rfl (by decide) rfl (show i56_2.toInt < i56_1.toInt from (Int.not_le.mp h57)) ?_
                  refine w_mv (pc1 := 12) (st1 := [.ref 6]) rfl rfl rfl ?_
                  refine cw_gf (v := .ref 7) (pc1 := 15) rfl (by omega) (by omega) g56 rfl rfl ?_
                  refine w_mv (pc1 := 16) (st1 := [.ref 6, .ref 7]) rfl rfl rfl ?_
                  refine cw_gf (v := .int i56_2) (pc1 := 19) rfl (by omega) (by omega) g56 rfl rfl ?_
                  obtain ⟨b59b, f59, g59, hh⟩ := hh
                  obtain ⟨q60a, q60b, hh⟩ := hh
                  refine cw_bld (pc1 := 20) rfl (by omega) g59 q60a q60b rfl ?_
                  refine w_mv (pc1 := 21) (st1 := [.int 124, .int (f59 i56_2.toNatClampNeg)]) rfl rfl rfl ?_
                  by_cases h61 : (f59 i56_2.toNatClampNeg).toInt = 124
                  ·
                    replace hh := hh.1 h61
                    refine w_ieq_T (pc1 := 26) rfl rfl (show (f59 i56_2.toNatClampNeg).toInt = 124 from h61) ?_
                    refine w_mv (pc1 := 27) (st1 := [.ref 6]) rfl rfl rfl ?_
                    refine w_mv (pc1 := 28) (st1 := [.ref 6, .ref 6]) rfl rfl rfl ?_
                    refine cw_gf (v := .int i56_2) (pc1 := 31) rfl (by omega) (by omega) g56 rfl rfl ?_
                    refine w_mv (pc1 := 32) (st1 := [.int 1, .int i56_2, .ref 6]) rfl rfl rfl ?_
                    refine w_mv (pc1 := 33) (st1 := [.int (i56_2 + 1), .ref 6]) rfl rfl rfl ?_
                    refine cw_pf (c1 := .inr (.inl (1, [.ref 7, .int i56_1, .int (i56_2 + 1)]))) (pc1 := 36) rfl (by omega) (by omega) g56 rfl rfl rfl rfl ?_
                    have g62 : (va_up G54 6 (.inr (.inl (1, [.ref 7, .int i56_1, .int (i56_2 + 1)])))) 7 = .inl (1, (48, .inl f59)) := (va_ne (ne_ao g59 g56)).trans g59
                    have g63 : (va_up G54 6 (.inr (.inl (1, [.ref 7, .int i56_1, .int (i56_2 + 1)])))) 6 = .inr (.inl (1, [.ref 7, .int i56_1, .int (i56_2 + 1)])) := up_eq
                    refine w_mv (pc1 := 37) (st1 := [.int 1]) rfl rfl rfl ?_
                    refine w_iret (pc1 := 69) rfl rfl rfl rfl ?_
                    refine w_mv (pc1 := 72) (st1 := []) rfl rfl rfl ?_
                    refine w_mv (pc1 := 73) (st1 := [.ref 6]) rfl rfl rfl ?_
                    refine w_mv (pc1 := 74) (st1 := [.ref N8, .ref 6]) rfl rfl rfl ?_
                    obtain ⟨b64a, b64b, r64_0, r64_1, r64_2, g64, hh⟩ := hh
                    refine cw_gf (v := .ref r64_2) (pc1 := 77) rfl (by omega) (by omega) g64 rfl rfl ?_
                    refine w_mv (pc1 := 78) (st1 := [.int 0, .ref r64_2, .ref 6]) rfl rfl rfl ?_
                    refine w_call (M' := sM_36) (vals := [.ref 6, .ref r64_2, .int 0]) (rest := []) (lv' := [(0, .ref 6), (1, .ref r64_2), (2, .int 0)]) rfl rfl rfl rfl rfl rfl (cH_rcv (by omega) (by omega) g63) rfl rfl rfl ?_
                    refine hh _ _ _ _ (fun r65 N65 G65 kc65 ks65 hh => ?_)
                    obtain ⟨v65, er65, hh⟩ := hh
                    subst er65
                    refine w_ki (pc1 := 81) rfl ?_
                    by_cases h66 : v65.toInt = 0
                    ·
                      replace hh := hh.2 h66
                      refine w_zne_F (pc1 := 84) rfl (by decide) rfl (show v65.toInt = 0 from h66) ?_
                      refine w_mv (pc1 := 85) (st1 := [.null]) rfl rfl rfl ?_
                      refine sx_wp.stop rfl rfl rfl ?_
                      exact c_acc (hP _ _ _ _ _ hh) (by omega) (by omega)
                    ·
                      replace hh := hh.1 h66
                      refine w_zne_T (pc1 := 86) rfl rfl (show v65.toInt ≠ 0 from h66) ?_
                      refine w_mv (pc1 := 87) (st1 := [.ref 6]) rfl rfl rfl ?_
                      obtain ⟨b67b, i67_1, i67_2, g67, hh⟩ := hh
                      refine cw_gf (v := .int i67_2) (pc1 := 90) rfl (by omega) (by omega) g67 rfl rfl ?_
                      refine w_mv (pc1 := 91) (st1 := [.ref 6, .int i67_2]) rfl rfl rfl ?_
                      refine cw_gf (v := .int i67_1) (pc1 := 94) rfl (by omega) (by omega) g67 rfl rfl ?_
                      by_cases h68 : i67_2.toInt = i67_1.toInt
                      ·
                        replace hh := hh.2 h68
                        refine w_ine_F (pc1 := 97) rfl (by decide) rfl (show i67_2.toInt = i67_1.toInt from h68) ?_
                        refine w_mv (pc1 := 98) (st1 := [.ref N8]) rfl rfl rfl ?_
                        refine w_mv (pc1 := 102) (st1 := [.ref N8]) rfl rfl rfl ?_
                        refine sx_wp.stop rfl rfl rfl ?_
                        exact c_acc (hP _ _ _ _ _ hh) (by omega) (by omega)
                      ·
                        replace hh := hh.1 h68
                        refine w_ine_T (pc1 := 101) rfl rfl (show i67_2.toInt ≠ i67_1.toInt from h68) ?_
                        refine w_mv (pc1 := 102) (st1 := [.null]) rfl rfl rfl ?_
                        refine sx_wp.stop rfl rfl rfl ?_
                        exact c_acc (hP _ _ _ _ _ hh) (by omega) (by omega)
                  ·
                    replace hh := hh.2 h61
                    refine w_ieq_F (pc1 := 24) rfl (by decide) rfl (show (f59 i56_2.toNatClampNeg).toInt ≠ 124 from h61) ?_
                    refine w_mv (pc1 := 25) (st1 := [.int 0]) rfl rfl rfl ?_
                    refine w_iret (pc1 := 69) rfl rfl rfl rfl ?_
                    refine w_mv (pc1 := 86) (st1 := []) rfl rfl rfl ?_
                    refine w_mv (pc1 := 87) (st1 := [.ref 6]) rfl rfl rfl ?_
                    refine cw_gf (v := .int i56_2) (pc1 := 90) rfl (by omega) (by omega) g56 rfl rfl ?_
                    refine w_mv (pc1 := 91) (st1 := [.ref 6, .int i56_2]) rfl rfl rfl ?_
                    refine cw_gf (v := .int i56_1) (pc1 := 94) rfl (by omega) (by omega) g56 rfl rfl ?_
                    by_cases h69 : i56_2.toInt = i56_1.toInt
                    ·
                      replace hh := hh.2 h69
                      refine w_ine_F (pc1 := 97) rfl (by decide) rfl (show i56_2.toInt = i56_1.toInt from h69) ?_
                      refine w_mv (pc1 := 98) (st1 := [.ref N8]) rfl rfl rfl ?_
                      refine w_mv (pc1 := 102) (st1 := [.ref N8]) rfl rfl rfl ?_
                      refine sx_wp.stop rfl rfl rfl ?_
                      exact c_acc (hP _ _ _ _ _ hh) (by omega) (by omega)
                    ·
                      replace hh := hh.1 h69
                      refine w_ine_T (pc1 := 101) rfl rfl (show i56_2.toInt ≠ i56_1.toInt from h69) ?_
                      refine w_mv (pc1 := 102) (st1 := [.null]) rfl rfl rfl ?_
                      refine sx_wp.stop rfl rfl rfl ?_
                      exact c_acc (hP _ _ _ _ _ hh) (by omega) (by omega)
            ·
              replace hh := hh.2 h49
              refine w_ieq_F (pc1 := 24) rfl (by decide) rfl (show (f47 i31_2.toNatClampNeg).toInt ≠ 58 from h49) ?_
              refine w_mv (pc1 := 25) (st1 := [.int 0]) rfl rfl rfl ?_
              refine w_iret (pc1 := 46) rfl rfl rfl rfl ?_
              refine w_mv (pc1 := 63) (st1 := []) rfl rfl rfl ?_
              refine w_mv (pc1 := 64) (st1 := [.ref 6]) rfl rfl rfl ?_
              refine w_mv (pc1 := 66) (st1 := [.int 124, .ref 6]) rfl rfl rfl ?_
              refine w_call (M' := sM_32) (vals := [.ref 6, .int 124]) (rest := []) (lv' := [(0, .ref 6), (1, .int 124)]) rfl rfl rfl rfl rfl rfl (cH_rcv (by omega) (by omega) g31) rfl rfl rfl ?_
              refine w_mv (pc1 := 1) (st1 := [.ref 6]) rfl rfl rfl ?_
              refine cw_gf (v := .int i31_2) (pc1 := 4) rfl (by omega) (by omega) g31 rfl rfl ?_
              refine w_mv (pc1 := 5) (st1 := [.ref 6, .int i31_2]) rfl rfl rfl ?_
              refine cw_gf (v := .int i31_1) (pc1 := 8) rfl (by omega) (by omega) g31 rfl rfl ?_
              by_cases h70 : i31_1.toInt ≤ i31_2.toInt
              ·
                replace hh := hh.1 h70
                refine w_ige_T (pc1 := 24) rfl rfl (show i31_1.toInt ≤ i31_2.toInt from h70) ?_
                refine w_mv (pc1 := 25) (st1 := [.int 0]) rfl rfl rfl ?_
                refine w_iret (pc1 := 69) rfl rfl rfl rfl ?_
                refine w_mv (pc1 := 86) (st1 := []) rfl rfl rfl ?_
                refine w_mv (pc1 := 87) (st1 := [.ref 6]) rfl rfl rfl ?_
                refine cw_gf (v := .int i31_2) (pc1 := 90) rfl (by omega) (by omega) g31 rfl rfl ?_
                refine w_mv (pc1 := 91) (st1 := [.ref 6, .int i31_2]) rfl rfl rfl ?_
                refine cw_gf (v := .int i31_1) (pc1 := 94) rfl (by omega) (by omega) g31 rfl rfl ?_
                by_cases h71 : i31_2.toInt = i31_1.toInt
                ·
                  replace hh := hh.2 h71
                  refine w_ine_F (pc1 := 97) rfl (by decide) rfl (show i31_2.toInt = i31_1.toInt from h71) ?_
                  refine w_mv (pc1 := 98) (st1 := [.ref N8]) rfl rfl rfl ?_
                  refine w_mv (pc1 := 102) (st1 := [.ref N8]) rfl rfl rfl ?_
                  refine sx_wp.stop rfl rfl rfl ?_
                  exact c_acc (hP _ _ _ _ _ hh) (by omega) (by omega)
                ·
                  replace hh := hh.1 h71
                  refine w_ine_T (pc1 := 101) rfl rfl (show i31_2.toInt ≠ i31_1.toInt from h71) ?_
                  refine w_mv (pc1 := 102) (st1 := [.null]) rfl rfl rfl ?_
                  refine sx_wp.stop rfl rfl rfl ?_
                  exact c_acc (hP _ _ _ _ _ hh) (by omega) (by omega)
              ·
                replace hh := hh.2 (Int.not_le.mp h70)
                refine w_ige_F (pc1 := 11) rfl (by decide) rfl (show i31_2.toInt < i31_1.toInt from (Int.not_le.mp h70)) ?_
                refine w_mv (pc1 := 12) (st1 := [.ref 6]) rfl rfl rfl ?_
                refine cw_gf (v := .ref 7) (pc1 := 15) rfl (by omega) (by omega) g31 rfl rfl ?_
                refine w_mv (pc1 := 16) (st1 := [.ref 6, .ref 7]) rfl rfl rfl ?_
                refine cw_gf (v := .int i31_2) (pc1 := 19) rfl (by omega) (by omega) g31 rfl rfl ?_
                obtain ⟨q72a, q72b, hh⟩ := hh
                refine cw_bld (pc1 := 20) rfl (by omega) g47 q72a q72b rfl ?_
                refine w_mv (pc1 := 21) (st1 := [.int 124, .int (f47 i31_2.toNatClampNeg)]) rfl rfl rfl ?_
                by_cases h73 : (f47 i31_2.toNatClampNeg).toInt = 124
                ·
                  replace hh := hh.1 h73
                  refine w_ieq_T (pc1 := 26) rfl rfl (show (f47 i31_2.toNatClampNeg).toInt = 124 from h73) ?_
                  refine w_mv (pc1 := 27) (st1 := [.ref 6]) rfl rfl rfl ?_
                  refine w_mv (pc1 := 28) (st1 := [.ref 6, .ref 6]) rfl rfl rfl ?_
                  refine cw_gf (v := .int i31_2) (pc1 := 31) rfl (by omega) (by omega) g31 rfl rfl ?_
                  refine w_mv (pc1 := 32) (st1 := [.int 1, .int i31_2, .ref 6]) rfl rfl rfl ?_
                  refine w_mv (pc1 := 33) (st1 := [.int (i31_2 + 1), .ref 6]) rfl rfl rfl ?_
                  refine cw_pf (c1 := .inr (.inl (1, [.ref 7, .int i31_1, .int (i31_2 + 1)]))) (pc1 := 36) rfl (by omega) (by omega) g31 rfl rfl rfl rfl ?_
                  have g74 : (va_up (va_up (va_up (va_up (va_up (va_up (va_up (va_up G8 N8 (.inr (.inl (8, [.null, .null, .null])))) (N8 + 1) (.inr (.inl (13, [.null, .int 0, .int 0])))) (N8 + 1) (.inr (.inl (13, [.ref 1, .int 0, .int 0])))) N8 (.inr (.inl (8, [.null, .ref (N8 + 1), .null])))) (N8 + 1 + 1) (.inr (.inl (13, [.null, .int 0, .int 0])))) (N8 + 1 + 1) (.inr (.inl (13, [.ref 1, .int 0, .int 0])))) N8 (.inr (.inl (8, [.ref x9, .ref (N8 + 1), .ref (N8 + 1 + 1)])))) 6 (.inr (.inl (1, [.ref 7, .int i31_1, .int (i31_2 + 1)])))) (N8 + 1 + 1) = .inr (.inl (13, [.ref 1, .int 0, .int 0])) := (va_ne (ne_ob g29 g31 (by decide))).trans g29
                  have g75 : (va_up (va_up (va_up (va_up (va_up (va_up (va_up (va_up G8 N8 (.inr (.inl (8, [.null, .null, .null])))) (N8 + 1) (.inr (.inl (13, [.null, .int 0, .int 0])))) (N8 + 1) (.inr (.inl (13, [.ref 1, .int 0, .int 0])))) N8 (.inr (.inl (8, [.null, .ref (N8 + 1), .null])))) (N8 + 1 + 1) (.inr (.inl (13, [.null, .int 0, .int 0])))) (N8 + 1 + 1) (.inr (.inl (13, [.ref 1, .int 0, .int 0])))) N8 (.inr (.inl (8, [.ref x9, .ref (N8 + 1), .ref (N8 + 1 + 1)])))) 6 (.inr (.inl (1, [.ref 7, .int i31_1, .int (i31_2 + 1)])))) N8 = .inr (.inl (8, [.ref x9, .ref (N8 + 1), .ref (N8 + 1 + 1)])) := (va_ne (ne_ob g30 g31 (by decide))).trans g30
                  have g76 : (va_up (va_up (va_up (va_up (va_up (va_up (va_up (va_up G8 N8 (.inr (.inl (8, [.null, .null, .null])))) (N8 + 1) (.inr (.inl (13, [.null, .int 0, .int 0])))) (N8 + 1) (.inr (.inl (13, [.ref 1, .int 0, .int 0])))) N8 (.inr (.inl (8, [.null, .ref (N8 + 1), .null])))) (N8 + 1 + 1) (.inr (.inl (13, [.null, .int 0, .int 0])))) (N8 + 1 + 1) (.inr (.inl (13, [.ref 1, .int 0, .int 0])))) N8 (.inr (.inl (8, [.ref x9, .ref (N8 + 1), .ref (N8 + 1 + 1)])))) 6 (.inr (.inl (1, [.ref 7, .int i31_1, .int (i31_2 + 1)])))) 7 = .inl (1, (48, .inl f47)) := (va_ne (ne_ao g47 g31)).trans g47
                  have g77 : (va_up (va_up (va_up (va_up (va_up (va_up (va_up (va_up G8 N8 (.inr (.inl (8, [.null, .null, .null])))) (N8 + 1) (.inr (.inl (13, [.null, .int 0, .int 0])))) (N8 + 1) (.inr (.inl (13, [.ref 1, .int 0, .int 0])))) N8 (.inr (.inl (8, [.null, .ref (N8 + 1), .null])))) (N8 + 1 + 1) (.inr (.inl (13, [.null, .int 0, .int 0])))) (N8 + 1 + 1) (.inr (.inl (13, [.ref 1, .int 0, .int 0])))) N8 (.inr (.inl (8, [.ref x9, .ref (N8 + 1), .ref (N8 + 1 + 1)])))) 6 (.inr (.inl (1, [.ref 7, .int i31_1, .int (i31_2 + 1)])))) 6 = .inr (.inl (1, [.ref 7, .int i31_1, .int (i31_2 + 1)])) := up_eq
                  refine w_mv (pc1 := 37) (st1 := [.int 1]) rfl rfl rfl ?_
                  refine w_iret (pc1 := 69) rfl rfl rfl rfl ?_
                  refine w_mv (pc1 := 72) (st1 := []) rfl rfl rfl ?_
                  refine w_mv (pc1 := 73) (st1 := [.ref 6]) rfl rfl rfl ?_
                  refine w_mv (pc1 := 74) (st1 := [.ref N8, .ref 6]) rfl rfl rfl ?_
                  refine cw_gf (v := .ref (N8 + 1 + 1)) (pc1 := 77) rfl (by omega) (by omega) g75 rfl rfl ?_
                  refine w_mv (pc1 := 78) (st1 := [.int 0, .ref (N8 + 1 + 1), .ref 6]) rfl rfl rfl ?_
                  refine w_call (M' := sM_36) (vals := [.ref 6, .ref (N8 + 1 + 1), .int 0]) (rest := []) (lv' := [(0, .ref 6), (1, .ref (N8 + 1 + 1)), (2, .int 0)]) rfl rfl rfl rfl rfl rfl (cH_rcv (by omega) (by omega) g77) rfl rfl rfl ?_
                  refine hh _ _ _ _ (fun r78 N78 G78 kc78 ks78 hh => ?_)
                  obtain ⟨v78, er78, hh⟩ := hh
                  subst er78
                  refine w_ki (pc1 := 81) rfl ?_
                  by_cases h79 : v78.toInt = 0
                  ·
                    replace hh := hh.2 h79
                    refine w_zne_F (pc1 := 84) rfl (by decide) rfl (show v78.toInt = 0 from h79) ?_
                    refine w_mv (pc1 := 85) (st1 := [.null]) rfl rfl rfl ?_
                    refine sx_wp.stop rfl rfl rfl ?_
                    exact c_acc (hP _ _ _ _ _ hh) (by omega) (by omega)
                  ·
                    replace hh := hh.1 h79
                    refine w_zne_T (pc1 := 86) rfl rfl (show v78.toInt ≠ 0 from h79) ?_
                    refine w_mv (pc1 := 87) (st1 := [.ref 6]) rfl rfl rfl ?_
                    obtain ⟨b80b, i80_1, i80_2, g80, hh⟩ := hh
                    refine cw_gf (v := .int i80_2) (pc1 := 90) rfl (by omega) (by omega) g80 rfl rfl ?_
                    refine w_mv (pc1 := 91) (st1 := [.ref 6, .int i80_2]) rfl rfl rfl ?_
                    refine cw_gf (v := .int i80_1) (pc1 := 94) rfl (by omega) (by omega) g80 rfl rfl ?_
                    by_cases h81 : i80_2.toInt = i80_1.toInt
                    ·
                      replace hh := hh.2 h81
                      refine w_ine_F (pc1 := 97) rfl (by decide) rfl (show i80_2.toInt = i80_1.toInt from h81) ?_
                      refine w_mv (pc1 := 98) (st1 := [.ref N8]) rfl rfl rfl ?_
                      refine w_mv (pc1 := 102) (st1 := [.ref N8]) rfl rfl rfl ?_
                      refine sx_wp.stop rfl rfl rfl ?_
                      exact c_acc (hP _ _ _ _ _ hh) (by omega) (by omega)
                    ·
                      replace hh := hh.1 h81
                      refine w_ine_T (pc1 := 101) rfl rfl (show i80_2.toInt ≠ i80_1.toInt from h81) ?_
                      refine w_mv (pc1 := 102) (st1 := [.null]) rfl rfl rfl ?_
                      refine sx_wp.stop rfl rfl rfl ?_
                      exact c_acc (hP _ _ _ _ _ hh) (by omega) (by omega)
                ·
                  replace hh := hh.2 h73
                  refine w_ieq_F (pc1 := 24) rfl (by decide) rfl (show (f47 i31_2.toNatClampNeg).toInt ≠ 124 from h73) ?_
                  refine w_mv (pc1 := 25) (st1 := [.int 0]) rfl rfl rfl ?_
                  refine w_iret (pc1 := 69) rfl rfl rfl rfl ?_
                  refine w_mv (pc1 := 86) (st1 := []) rfl rfl rfl ?_
                  refine w_mv (pc1 := 87) (st1 := [.ref 6]) rfl rfl rfl ?_
                  refine cw_gf (v := .int i31_2) (pc1 := 90) rfl (by omega) (by omega) g31 rfl rfl ?_
                  refine w_mv (pc1 := 91) (st1 := [.ref 6, .int i31_2]) rfl rfl rfl ?_
                  refine cw_gf (v := .int i31_1) (pc1 := 94) rfl (by omega) (by omega) g31 rfl rfl ?_
                  by_cases h82 : i31_2.toInt = i31_1.toInt
                  ·
                    replace hh := hh.2 h82
                    refine w_ine_F (pc1 := 97) rfl (by decide) rfl (show i31_2.toInt = i31_1.toInt from h82) ?_
                    refine w_mv (pc1 := 98) (st1 := [.ref N8]) rfl rfl rfl ?_
                    refine w_mv (pc1 := 102) (st1 := [.ref N8]) rfl rfl rfl ?_
                    refine sx_wp.stop rfl rfl rfl ?_
                    exact c_acc (hP _ _ _ _ _ hh) (by omega) (by omega)
                  ·
                    replace hh := hh.1 h82
                    refine w_ine_T (pc1 := 101) rfl rfl (show i31_2.toInt ≠ i31_1.toInt from h82) ?_
                    refine w_mv (pc1 := 102) (st1 := [.null]) rfl rfl rfl ?_
                    refine sx_wp.stop rfl rfl rfl ?_
                    exact c_acc (hP _ _ _ _ _ hh) (by omega) (by omega)
set_option maxRecDepth 20000 in
set_option maxHeartbeats 4000000 in
theorem k_28_0 {h : Nat} {p1 : Int32} {N : Nat} {G : Nat → sx_C} {K : Option Value ⊕ Nat → Nat → (Nat → sx_C) → Nat → Nat → Prop} (hh : 6 < N ∧ ∃ (i1_1 : Int32) (i1_2 : Int32), G 6 = .inr (.inl (1, [.ref 7, .int i1_1, .int i1_2])) ∧ ((i1_1.toInt ≤ i1_2.toInt → K (.inl (some (.null))) (N) G (0) (0)) ∧ (i1_2.toInt < i1_1.toInt → 7 < N ∧ ∃ (f3 : Nat → Int32), G 7 = .inl (1, (48, .inl f3)) ∧ 0 ≤ i1_2.toInt ∧ i1_2.toInt < (48 : Nat) ∧ (((f3 i1_2.toNatClampNeg).toInt < 65 → (((f3 i1_2.toNatClampNeg).toInt < 48 → (((f3 i1_2.toNatClampNeg).toInt < 97 → K (.inl (some (.null))) (N) G (0) (0)) ∧ (97 ≤ (f3 i1_2.toNatClampNeg).toInt → ((122 < (f3 i1_2.toNatClampNeg).toInt → K (.inl (some (.null))) (N) G (0) (0)) ∧ ((f3 i1_2.toNatClampNeg).toInt ≤ 122 → 5 ≤ N ∧ cT (h + 3) sM_28 81 [(0, .ref 6), (1, .int p1), (3, .ref N)] [] (N + 1 + 1) (va_up (va_up (va_up (va_up (va_up G 6 (.inr (.inl (1, [.ref 7, .int i1_1, .int (i1_2 + 1)])))) N (.inr (.inl (7, [.int 0, .int 0, .null, .int 0, .int 0])))) N (.inr (.inl (7, [.int 2, .int (f3 i1_2.toNatClampNeg), .null, .int 0, .int 0])))) (N + 1) (.inl (8, (3, .inr (.inr (.inr (.inr (fun _ => none)))))))) N (.inr (.inl (7, [.int 2, .int (f3 i1_2.toNatClampNeg), .ref (N + 1), .int 0, .int 0])))) (fun r N1 G1 kc1 ks1 => K r N1 G1 (kc1 + 2) (ks1 + 8))))))) ∧ (48 ≤ (f3 i1_2.toNatClampNeg).toInt → ((57 < (f3 i1_2.toNatClampNeg).toInt → (((f3 i1_2.toNatClampNeg).toInt < 97 → K (.inl (some (.null))) (N) G (0) (0)) ∧ (97 ≤ (f3 i1_2.toNatClampNeg).toInt → ((122 < (f3 i1_2.toNatClampNeg).toInt → K (.inl (some (.null))) (N) G (0) (0)) ∧ ((f3 i1_2.toNatClampNeg).toInt ≤ 122 → 5 ≤ N ∧ cT (h + 3) sM_28 81 [(0, .ref 6), (1, .int p1), (3, .ref N)] [] (N + 1 + 1) (va_up (va_up (va_up (va_up (va_up G 6 (.inr (.inl (1, [.ref 7, .int i1_1, .int (i1_2 + 1)])))) N (.inr (.inl (7, [.int 0, .int 0, .null, .int 0, .int 0])))) N (.inr (.inl (7, [.int 2, .int (f3 i1_2.toNatClampNeg), .null, .int 0, .int 0])))) (N + 1) (.inl (8, (3, .inr (.inr (.inr (.inr (fun _ => none)))))))) N (.inr (.inl (7, [.int 2, .int (f3 i1_2.toNatClampNeg), .ref (N + 1), .int 0, .int 0])))) (fun r N1 G1 kc1 ks1 => K r N1 G1 (kc1 + 2) (ks1 + 8))))))) ∧ ((f3 i1_2.toNatClampNeg).toInt ≤ 57 → cT (2) sM_31 0 [(0, .ref 6)] [] (N) G (fun r68 N68 G68 kc68 ks68 => ∃ o68 : Option Nat, r68 = .inl (some (va_rf o68)) ∧ K (.inl (some (va_rf o68))) (N68) G68 (kc68) (ks68))))))) ∧ (65 ≤ (f3 i1_2.toNatClampNeg).toInt → ((90 < (f3 i1_2.toNatClampNeg).toInt → (((f3 i1_2.toNatClampNeg).toInt < 48 → (((f3 i1_2.toNatClampNeg).toInt < 97 → K (.inl (some (.null))) (N) G (0) (0)) ∧ (97 ≤ (f3 i1_2.toNatClampNeg).toInt → ((122 < (f3 i1_2.toNatClampNeg).toInt → K (.inl (some (.null))) (N) G (0) (0)) ∧ ((f3 i1_2.toNatClampNeg).toInt ≤ 122 → 5 ≤ N ∧ cT (h + 3) sM_28 81 [(0, .ref 6), (1, .int p1), (3, .ref N)] [] (N + 1 + 1) (va_up (va_up (va_up (va_up (va_up G 6 (.inr (.inl (1, [.ref 7, .int i1_1, .int (i1_2 + 1)])))) N (.inr (.inl (7, [.int 0, .int 0, .null, .int 0, .int 0])))) N (.inr (.inl (7, [.int 2, .int (f3 i1_2.toNatClampNeg), .null, .int 0, .int 0])))) (N + 1) (.inl (8, (3, .inr (.inr (.inr (.inr (fun _ => none)))))))) N (.inr (.inl (7, [.int 2, .int (f3 i1_2.toNatClampNeg), .ref (N + 1), .int 0, .int 0])))) (fun r N1 G1 kc1 ks1 => K r N1 G1 (kc1 + 2) (ks1 + 8))))))) ∧ (48 ≤ (f3 i1_2.toNatClampNeg).toInt → ((57 < (f3 i1_2.toNatClampNeg).toInt → (((f3 i1_2.toNatClampNeg).toInt < 97 → K (.inl (some (.null))) (N) G (0) (0)) ∧ (97 ≤ (f3 i1_2.toNatClampNeg).toInt → ((122 < (f3 i1_2.toNatClampNeg).toInt → K (.inl (some (.null))) (N) G (0) (0)) ∧ ((f3 i1_2.toNatClampNeg).toInt ≤ 122 → 5 ≤ N ∧ cT (h + 3) sM_28 81 [(0, .ref 6), (1, .int p1), (3, .ref N)] [] (N + 1 + 1) (va_up (va_up (va_up (va_up (va_up G 6 (.inr (.inl (1, [.ref 7, .int i1_1, .int (i1_2 + 1)])))) N (.inr (.inl (7, [.int 0, .int 0, .null, .int 0, .int 0])))) N (.inr (.inl (7, [.int 2, .int (f3 i1_2.toNatClampNeg), .null, .int 0, .int 0])))) (N + 1) (.inl (8, (3, .inr (.inr (.inr (.inr (fun _ => none)))))))) N (.inr (.inl (7, [.int 2, .int (f3 i1_2.toNatClampNeg), .ref (N + 1), .int 0, .int 0])))) (fun r N1 G1 kc1 ks1 => K r N1 G1 (kc1 + 2) (ks1 + 8))))))) ∧ ((f3 i1_2.toNatClampNeg).toInt ≤ 57 → cT (2) sM_31 0 [(0, .ref 6)] [] (N) G (fun r132 N132 G132 kc132 ks132 => ∃ o132 : Option Nat, r132 = .inl (some (va_rf o132)) ∧ K (.inl (some (va_rf o132))) (N132) G132 (kc132) (ks132))))))) ∧ ((f3 i1_2.toNatClampNeg).toInt ≤ 90 → 5 ≤ N ∧ K (.inl (some (.ref N))) (N + 1 + 1) (va_up (va_up (va_up (va_up (va_up G 6 (.inr (.inl (1, [.ref 7, .int i1_1, .int (i1_2 + 1)])))) N (.inr (.inl (7, [.int 0, .int 0, .null, .int 0, .int 0])))) N (.inr (.inl (7, [.int 0, .int (f3 i1_2.toNatClampNeg - 65), .null, .int 0, .int 0])))) (N + 1) (.inl (8, (0, .inr (.inr (.inr (.inr (fun _ => none)))))))) N (.inr (.inl (7, [.int 0, .int (f3 i1_2.toNatClampNeg - 65), .ref (N + 1), .int 0, .int (c_shl 1 (f3 i1_2.toNatClampNeg - 65))])))) (2) (5)))))))) : cT (h + 3) sM_28 0 [(0, .ref 6), (1, .int p1)] [] N G K := by
  intro d dc ds P hP
  show s_wp (d + h + 3) _ _ _ _ _ _ _ _
  refine w_mv (pc1 := 1) (st1 := [.ref 6]) rfl rfl rfl ?_
  obtain ⟨b1b, i1_1, i1_2, g1, hh⟩ := hh
  refine w_call (M' := sM_26) (vals := [.ref 6]) (rest := []) (lv' := [(0, .ref 6)]) rfl rfl rfl rfl rfl rfl (cH_rcv (by omega) (by omega) g1) rfl rfl rfl ?_
  refine w_mv (pc1 := 1) (st1 := [.ref 6]) rfl rfl rfl ?_
  refine cw_gf (v := .int i1_2) (pc1 := 4) rfl (by omega) (by omega) g1 rfl rfl ?_
  refine w_mv (pc1 := 5) (st1 := [.ref 6, .int i1_2]) rfl rfl rfl ?_
  refine cw_gf (v := .int i1_1) (pc1 := 8) rfl (by omega) (by omega) g1 rfl rfl ?_
  by_cases h2 : i1_1.toInt ≤ i1_2.toInt
  ·
    replace hh := hh.1 h2
    refine w_ige_T (pc1 := 23) rfl rfl (show i1_1.toInt ≤ i1_2.toInt from h2) ?_
    refine w_mv (pc1 := 24) (st1 := [.int 0]) rfl rfl rfl ?_
    refine w_iret (pc1 := 4) rfl rfl rfl rfl ?_
    refine w_mv (pc1 := 5) (lv1 := [(2, .int 0), (0, .ref 6), (1, .int p1)]) (st1 := []) rfl rfl rfl ?_
    refine w_mv (pc1 := 6) (st1 := [.int 0]) rfl rfl rfl ?_
    refine w_mv (pc1 := 8) (st1 := [.int 65, .int 0]) rfl rfl rfl ?_
    refine w_mv (pc1 := 40) (st1 := []) rfl rfl rfl ?_
    refine w_mv (pc1 := 41) (st1 := [.int 0]) rfl rfl rfl ?_
    refine w_call (M' := sM_30) (vals := [.int 0]) (rest := []) (lv' := [(0, .int 0)]) rfl rfl rfl rfl rfl rfl rfl rfl rfl rfl ?_
    refine w_mv (pc1 := 1) (st1 := [.int 0]) rfl rfl rfl ?_
    refine w_mv (pc1 := 3) (st1 := [.int 48, .int 0]) rfl rfl rfl ?_
    refine w_mv (pc1 := 16) (st1 := []) rfl rfl rfl ?_
    refine w_mv (pc1 := 17) (st1 := [.int 0]) rfl rfl rfl ?_
    refine w_iret (pc1 := 44) rfl rfl rfl rfl ?_
    refine w_mv (pc1 := 52) (st1 := []) rfl rfl rfl ?_
    refine w_mv (pc1 := 53) (st1 := [.int 0]) rfl rfl rfl ?_
    refine w_call (M' := sM_27) (vals := [.int 0]) (rest := []) (lv' := [(0, .int 0)]) rfl rfl rfl rfl rfl rfl rfl rfl rfl rfl ?_
    refine w_mv (pc1 := 1) (st1 := [.int 0]) rfl rfl rfl ?_
    refine w_mv (pc1 := 3) (st1 := [.int 97, .int 0]) rfl rfl rfl ?_
    refine w_mv (pc1 := 16) (st1 := []) rfl rfl rfl ?_
    refine w_mv (pc1 := 17) (st1 := [.int 0]) rfl rfl rfl ?_
    refine w_iret (pc1 := 56) rfl rfl rfl rfl ?_
    refine w_mv (pc1 := 59) (st1 := []) rfl rfl rfl ?_
    refine w_mv (pc1 := 60) (st1 := [.null]) rfl rfl rfl ?_
    refine sx_wp.stop rfl rfl rfl ?_
    exact c_acc (hP _ _ _ _ _ hh) (by omega) (by omega)
  ·
    replace hh := hh.2 (Int.not_le.mp h2)
    refine w_ige_F (pc1 := 11) rfl (by decide) rfl (show i1_2.toInt < i1_1.toInt from (Int.not_le.mp h2)) ?_
    refine w_mv (pc1 := 12) (st1 := [.ref 6]) rfl rfl rfl ?_
    refine cw_gf (v := .ref 7) (pc1 := 15) rfl (by omega) (by omega) g1 rfl rfl ?_
    refine w_mv (pc1 := 16) (st1 := [.ref 6, .ref 7]) rfl rfl rfl ?_
    refine cw_gf (v := .int i1_2) (pc1 := 19) rfl (by omega) (by omega) g1 rfl rfl ?_
    obtain ⟨b3b, f3, g3, hh⟩ := hh
    obtain ⟨q4a, q4b, hh⟩ := hh
    refine cw_bld (pc1 := 20) rfl (by omega) g3 q4a q4b rfl ?_
    refine w_mv (pc1 := 24) (st1 := [.int (f3 i1_2.toNatClampNeg)]) rfl rfl rfl ?_
    refine w_iret (pc1 := 4) rfl rfl rfl rfl ?_
    refine w_mv (pc1 := 5) (lv1 := [(2, .int (f3 i1_2.toNatClampNeg)), (0, .ref 6), (1, .int p1)]) (st1 := []) rfl rfl rfl ?_
    refine w_mv (pc1 := 6) (st1 := [.int (f3 i1_2.toNatClampNeg)]) rfl rfl rfl ?_
    refine w_mv (pc1 := 8) (st1 := [.int 65, .int (f3 i1_2.toNatClampNeg)]) rfl rfl rfl ?_
    by_cases h5 : (f3 i1_2.toNatClampNeg).toInt < 65
    ·
      replace hh := hh.1 h5
      refine w_ilt_T (pc1 := 40) rfl rfl (show (f3 i1_2.toNatClampNeg).toInt < 65 from h5) ?_
      refine w_mv (pc1 := 41) (st1 := [.int (f3 i1_2.toNatClampNeg)]) rfl rfl rfl ?_
      refine w_call (M' := sM_30) (vals := [.int (f3 i1_2.toNatClampNeg)]) (rest := []) (lv' := [(0, .int (f3 i1_2.toNatClampNeg))]) rfl rfl rfl rfl rfl rfl rfl rfl rfl rfl ?_
      refine w_mv (pc1 := 1) (st1 := [.int (f3 i1_2.toNatClampNeg)]) rfl rfl rfl ?_
      refine w_mv (pc1 := 3) (st1 := [.int 48, .int (f3 i1_2.toNatClampNeg)]) rfl rfl rfl ?_
      by_cases h6 : (f3 i1_2.toNatClampNeg).toInt < 48
      ·
        replace hh := hh.1 h6
        refine w_ilt_T (pc1 := 16) rfl rfl (show (f3 i1_2.toNatClampNeg).toInt < 48 from h6) ?_
        refine w_mv (pc1 := 17) (st1 := [.int 0]) rfl rfl rfl ?_
        refine w_iret (pc1 := 44) rfl rfl rfl rfl ?_
        refine w_mv (pc1 := 52) (st1 := []) rfl rfl rfl ?_
        refine w_mv (pc1 := 53) (st1 := [.int (f3 i1_2.toNatClampNeg)]) rfl rfl rfl ?_
        refine w_call (M' := sM_27) (vals := [.int (f3 i1_2.toNatClampNeg)]) (rest := []) (lv' := [(0, .int (f3 i1_2.toNatClampNeg))]) rfl rfl rfl rfl rfl rfl rfl rfl rfl rfl ?_
        refine w_mv (pc1 := 1) (st1 := [.int (f3 i1_2.toNatClampNeg)]) rfl rfl rfl ?_
        refine w_mv (pc1 := 3) (st1 := [.int 97, .int (f3 i1_2.toNatClampNeg)]) rfl rfl rfl ?_
        by_cases h7 : (f3 i1_2.toNatClampNeg).toInt < 97
        ·
          replace hh := hh.1 h7
          refine w_ilt_T (pc1 := 16) rfl rfl (show (f3 i1_2.toNatClampNeg).toInt < 97 from h7) ?_
          refine w_mv (pc1 := 17) (st1 := [.int 0]) rfl rfl rfl ?_
          refine w_iret (pc1 := 56) rfl rfl rfl rfl ?_
          refine w_mv (pc1 := 59) (st1 := []) rfl rfl rfl ?_
          refine w_mv (pc1 := 60) (st1 := [.null]) rfl rfl rfl ?_
          refine sx_wp.stop rfl rfl rfl ?_
          exact c_acc (hP _ _ _ _ _ hh) (by omega) (by omega)
        ·
          replace hh := hh.2 (Int.not_lt.mp h7)
          refine w_ilt_F (pc1 := 6) rfl (by decide) rfl (show 97 ≤ (f3 i1_2.toNatClampNeg).toInt from (Int.not_lt.mp h7)) ?_
          refine w_mv (pc1 := 7) (st1 := [.int (f3 i1_2.toNatClampNeg)]) rfl rfl rfl ?_
          refine w_mv (pc1 := 9) (st1 := [.int 122, .int (f3 i1_2.toNatClampNeg)]) rfl rfl rfl ?_
          by_cases h8 : 122 < (f3 i1_2.toNatClampNeg).toInt
          ·
            replace hh := hh.1 h8
            refine w_igt_T (pc1 := 16) rfl rfl (show 122 < (f3 i1_2.toNatClampNeg).toInt from h8) ?_
            refine w_mv (pc1 := 17) (st1 := [.int 0]) rfl rfl rfl ?_
            refine w_iret (pc1 := 56) rfl rfl rfl rfl ?_
            refine w_mv (pc1 := 59) (st1 := []) rfl rfl rfl ?_
            refine w_mv (pc1 := 60) (st1 := [.null]) rfl rfl rfl ?_
            refine sx_wp.stop rfl rfl rfl ?_
            exact c_acc (hP _ _ _ _ _ hh) (by omega) (by omega)
          ·
            replace hh := hh.2 (Int.not_lt.mp h8)
            refine w_igt_F (pc1 := 12) rfl (by decide) rfl (show (f3 i1_2.toNatClampNeg).toInt ≤ 122 from (Int.not_lt.mp h8)) ?_
            refine w_mv (pc1 := 13) (st1 := [.int 1]) rfl rfl rfl ?_
            refine w_mv (pc1 := 17) (st1 := [.int 1]) rfl rfl rfl ?_
            refine w_iret (pc1 := 56) rfl rfl rfl rfl ?_
            refine w_mv (pc1 := 61) (st1 := []) rfl rfl rfl ?_
            refine w_mv (pc1 := 62) (st1 := [.ref 6]) rfl rfl rfl ?_
            refine w_mv (pc1 := 63) (st1 := [.ref 6, .ref 6]) rfl rfl rfl ?_
            refine cw_gf (v := .int i1_2) (pc1 := 66) rfl (by omega) (by omega) g1 rfl rfl ?_
            refine w_mv (pc1 := 67) (st1 := [.int 1, .int i1_2, .ref 6]) rfl rfl rfl ?_
            refine w_mv (pc1 := 68) (st1 := [.int (i1_2 + 1), .ref 6]) rfl rfl rfl ?_
            refine cw_pf (c1 := .inr (.inl (1, [.ref 7, .int i1_1, .int (i1_2 + 1)]))) (pc1 := 71) rfl (by omega) (by omega) g1 rfl rfl rfl rfl ?_
            have g9 : (va_up G 6 (.inr (.inl (1, [.ref 7, .int i1_1, .int (i1_2 + 1)])))) 7 = .inl (1, (48, .inl f3)) := (va_ne (ne_ao g3 g1)).trans g3
            have g10 : (va_up G 6 (.inr (.inl (1, [.ref 7, .int i1_1, .int (i1_2 + 1)])))) 6 = .inr (.inl (1, [.ref 7, .int i1_1, .int (i1_2 + 1)])) := up_eq
            obtain ⟨q11a, hh⟩ := hh
            refine cw_new (k := 5) (c1 := .inr (.inl (7, [.int 0, .int 0, .null, .int 0, .int 0]))) (pc1 := 74) rfl rfl rfl rfl ?_
            have g12 : (va_up (va_up G 6 (.inr (.inl (1, [.ref 7, .int i1_1, .int (i1_2 + 1)])))) N (.inr (.inl (7, [.int 0, .int 0, .null, .int 0, .int 0])))) 7 = .inl (1, (48, .inl f3)) := (va_ne (by omega)).trans g9
            have g13 : (va_up (va_up G 6 (.inr (.inl (1, [.ref 7, .int i1_1, .int (i1_2 + 1)])))) N (.inr (.inl (7, [.int 0, .int 0, .null, .int 0, .int 0])))) 6 = .inr (.inl (1, [.ref 7, .int i1_1, .int (i1_2 + 1)])) := (va_ne (by omega)).trans g10
            have g14 : (va_up (va_up G 6 (.inr (.inl (1, [.ref 7, .int i1_1, .int (i1_2 + 1)])))) N (.inr (.inl (7, [.int 0, .int 0, .null, .int 0, .int 0])))) N = .inr (.inl (7, [.int 0, .int 0, .null, .int 0, .int 0])) := up_eq
            refine w_mv (pc1 := 75) (st1 := [.ref N, .ref N]) rfl rfl rfl ?_
            refine w_mv (pc1 := 76) (st1 := [.int 2, .ref N, .ref N]) rfl rfl rfl ?_
            refine w_mv (pc1 := 77) (st1 := [.int (f3 i1_2.toNatClampNeg), .int 2, .ref N, .ref N]) rfl rfl rfl ?_
            refine w_call (M' := sM_29) (vals := [.ref N, .int 2, .int (f3 i1_2.toNatClampNeg)]) (rest := [.ref N]) (lv' := [(0, .ref N), (1, .int 2), (2, .int (f3 i1_2.toNatClampNeg))]) rfl rfl rfl rfl rfl rfl rfl rfl rfl rfl ?_
            refine w_mv (pc1 := 1) (st1 := [.ref N]) rfl rfl rfl ?_
            refine w_obj (pc1 := 4) (st1 := []) rfl rfl rfl ⟨by omega, Nat.le_of_ble_eq_true rfl⟩ rfl ?_
            refine w_mv (pc1 := 5) (st1 := [.ref N]) rfl rfl rfl ?_
            refine w_mv (pc1 := 6) (st1 := [.int 2, .ref N]) rfl rfl rfl ?_
            refine cw_pf (c1 := .inr (.inl (7, [.int 2, .int 0, .null, .int 0, .int 0]))) (pc1 := 9) rfl (by omega) (by omega) g14 rfl rfl rfl rfl ?_
            have g15 : (va_up (va_up (va_up G 6 (.inr (.inl (1, [.ref 7, .int i1_1, .int (i1_2 + 1)])))) N (.inr (.inl (7, [.int 0, .int 0, .null, .int 0, .int 0])))) N (.inr (.inl (7, [.int 2, .int 0, .null, .int 0, .int 0])))) 7 = .inl (1, (48, .inl f3)) := (va_ne (ne_ao g12 g14)).trans g12
            have g16 : (va_up (va_up (va_up G 6 (.inr (.inl (1, [.ref 7, .int i1_1, .int (i1_2 + 1)])))) N (.inr (.inl (7, [.int 0, .int 0, .null, .int 0, .int 0])))) N (.inr (.inl (7, [.int 2, .int 0, .null, .int 0, .int 0])))) 6 = .inr (.inl (1, [.ref 7, .int i1_1, .int (i1_2 + 1)])) := (va_ne (ne_ob g13 g14 (by decide))).trans g13
            have g17 : (va_up (va_up (va_up G 6 (.inr (.inl (1, [.ref 7, .int i1_1, .int (i1_2 + 1)])))) N (.inr (.inl (7, [.int 0, .int 0, .null, .int 0, .int 0])))) N (.inr (.inl (7, [.int 2, .int 0, .null, .int 0, .int 0])))) N = .inr (.inl (7, [.int 2, .int 0, .null, .int 0, .int 0])) := up_eq
            refine w_mv (pc1 := 10) (st1 := [.ref N]) rfl rfl rfl ?_
            refine w_mv (pc1 := 11) (st1 := [.int (f3 i1_2.toNatClampNeg), .ref N]) rfl rfl rfl ?_
            refine cw_pf (c1 := .inr (.inl (7, [.int 2, .int (f3 i1_2.toNatClampNeg), .null, .int 0, .int 0]))) (pc1 := 14) rfl (by omega) (by omega) g17 rfl rfl rfl rfl ?_
            rw [va_uu]
            have g18 : (va_up (va_up (va_up G 6 (.inr (.inl (1, [.ref 7, .int i1_1, .int (i1_2 + 1)])))) N (.inr (.inl (7, [.int 0, .int 0, .null, .int 0, .int 0])))) N (.inr (.inl (7, [.int 2, .int (f3 i1_2.toNatClampNeg), .null, .int 0, .int 0])))) 7 = .inl (1, (48, .inl f3)) := (va_ne (ne_ao g15 g17)).trans ((va_ne (ne_ao g15 g17)).symm.trans g15)
            have g19 : (va_up (va_up (va_up G 6 (.inr (.inl (1, [.ref 7, .int i1_1, .int (i1_2 + 1)])))) N (.inr (.inl (7, [.int 0, .int 0, .null, .int 0, .int 0])))) N (.inr (.inl (7, [.int 2, .int (f3 i1_2.toNatClampNeg), .null, .int 0, .int 0])))) 6 = .inr (.inl (1, [.ref 7, .int i1_1, .int (i1_2 + 1)])) := (va_ne (ne_ob g16 g17 (by decide))).trans ((va_ne (ne_ob g16 g17 (by decide))).symm.trans g16)
            have g20 : (va_up (va_up (va_up G 6 (.inr (.inl (1, [.ref 7, .int i1_1, .int (i1_2 + 1)])))) N (.inr (.inl (7, [.int 0, .int 0, .null, .int 0, .int 0])))) N (.inr (.inl (7, [.int 2, .int (f3 i1_2.toNatClampNeg), .null, .int 0, .int 0])))) N = .inr (.inl (7, [.int 2, .int (f3 i1_2.toNatClampNeg), .null, .int 0, .int 0])) := up_eq
            refine w_mv (pc1 := 15) (st1 := [.ref N]) rfl rfl rfl ?_
            refine w_mv (pc1 := 16) (st1 := [.int 2, .ref N]) rfl rfl rfl ?_
            refine w_mv (pc1 := 17) (st1 := [.int 2, .int 2, .ref N]) rfl rfl rfl ?_
            refine w_mv (pc1 := 20) (st1 := [.ref N]) rfl rfl rfl ?_
            refine w_mv (pc1 := 21) (st1 := [.int 3, .ref N]) rfl rfl rfl ?_
            refine w_mv (pc1 := 25) (st1 := [.int 3, .ref N]) rfl rfl rfl ?_
            refine cw_newq (n := 3) (pc1 := 28) rfl rfl (by decide) (by decide) (by decide) ?_
            have g21 : (va_up (va_up (va_up (va_up G 6 (.inr (.inl (1, [.ref 7, .int i1_1, .int (i1_2 + 1)])))) N (.inr (.inl (7, [.int 0, .int 0, .null, .int 0, .int 0])))) N (.inr (.inl (7, [.int 2, .int (f3 i1_2.toNatClampNeg), .null, .int 0, .int 0])))) (N + 1) (.inl (8, (3, .inr (.inr (.inr (.inr (fun _ => none)))))))) 7 = .inl (1, (48, .inl f3)) := (va_ne (by omega)).trans g18
            have g22 : (va_up (va_up (va_up (va_up G 6 (.inr (.inl (1, [.ref 7, .int i1_1, .int (i1_2 + 1)])))) N (.inr (.inl (7, [.int 0, .int 0, .null, .int 0, .int 0])))) N (.inr (.inl (7, [.int 2, .int (f3 i1_2.toNatClampNeg), .null, .int 0, .int 0])))) (N + 1) (.inl (8, (3, .inr (.inr (.inr (.inr (fun _ => none)))))))) 6 = .inr (.inl (1, [.ref 7, .int i1_1, .int (i1_2 + 1)])) := (va_ne (by omega)).trans g19
            have g23 : (va_up (va_up (va_up (va_up G 6 (.inr (.inl (1, [.ref 7, .int i1_1, .int (i1_2 + 1)])))) N (.inr (.inl (7, [.int 0, .int 0, .null, .int 0, .int 0])))) N (.inr (.inl (7, [.int 2, .int (f3 i1_2.toNatClampNeg), .null, .int 0, .int 0])))) (N + 1) (.inl (8, (3, .inr (.inr (.inr (.inr (fun _ => none)))))))) N = .inr (.inl (7, [.int 2, .int (f3 i1_2.toNatClampNeg), .null, .int 0, .int 0])) := (va_ne (by omega)).trans g20
            have g24 : (va_up (va_up (va_up (va_up G 6 (.inr (.inl (1, [.ref 7, .int i1_1, .int (i1_2 + 1)])))) N (.inr (.inl (7, [.int 0, .int 0, .null, .int 0, .int 0])))) N (.inr (.inl (7, [.int 2, .int (f3 i1_2.toNatClampNeg), .null, .int 0, .int 0])))) (N + 1) (.inl (8, (3, .inr (.inr (.inr (.inr (fun _ => none)))))))) (N + 1) = .inl (8, (3, .inr (.inr (.inr (.inr (fun _ => none)))))) := up_eq
            refine cw_pf (c1 := .inr (.inl (7, [.int 2, .int (f3 i1_2.toNatClampNeg), .ref (N + 1), .int 0, .int 0]))) (pc1 := 31) rfl (by omega) (by omega) g23 rfl rfl rfl rfl ?_
            have g25 : (va_up (va_up (va_up (va_up (va_up G 6 (.inr (.inl (1, [.ref 7, .int i1_1, .int (i1_2 + 1)])))) N (.inr (.inl (7, [.int 0, .int 0, .null, .int 0, .int 0])))) N (.inr (.inl (7, [.int 2, .int (f3 i1_2.toNatClampNeg), .null, .int 0, .int 0])))) (N + 1) (.inl (8, (3, .inr (.inr (.inr (.inr (fun _ => none)))))))) N (.inr (.inl (7, [.int 2, .int (f3 i1_2.toNatClampNeg), .ref (N + 1), .int 0, .int 0])))) 7 = .inl (1, (48, .inl f3)) := (va_ne (ne_ao g21 g23)).trans g21
            have g26 : (va_up (va_up (va_up (va_up (va_up G 6 (.inr (.inl (1, [.ref 7, .int i1_1, .int (i1_2 + 1)])))) N (.inr (.inl (7, [.int 0, .int 0, .null, .int 0, .int 0])))) N (.inr (.inl (7, [.int 2, .int (f3 i1_2.toNatClampNeg), .null, .int 0, .int 0])))) (N + 1) (.inl (8, (3, .inr (.inr (.inr (.inr (fun _ => none)))))))) N (.inr (.inl (7, [.int 2, .int (f3 i1_2.toNatClampNeg), .ref (N + 1), .int 0, .int 0])))) 6 = .inr (.inl (1, [.ref 7, .int i1_1, .int (i1_2 + 1)])) := (va_ne (ne_ob g22 g23 (by decide))).trans g22
            have g27 : (va_up (va_up (va_up (va_up (va_up G 6 (.inr (.inl (1, [.ref 7, .int i1_1, .int (i1_2 + 1)])))) N (.inr (.inl (7, [.int 0, .int 0, .null, .int 0, .int 0])))) N (.inr (.inl (7, [.int 2, .int (f3 i1_2.toNatClampNeg), .null, .int 0, .int 0])))) (N + 1) (.inl (8, (3, .inr (.inr (.inr (.inr (fun _ => none)))))))) N (.inr (.inl (7, [.int 2, .int (f3 i1_2.toNatClampNeg), .ref (N + 1), .int 0, .int 0])))) (N + 1) = .inl (8, (3, .inr (.inr (.inr (.inr (fun _ => none)))))) := (va_ne (ne_ao g24 g23)).trans g24
            have g28 : (va_up (va_up (va_up (va_up (va_up G 6 (.inr (.inl (1, [.ref 7, .int i1_1, .int (i1_2 + 1)])))) N (.inr (.inl (7, [.int 0, .int 0, .null, .int 0, .int 0])))) N (.inr (.inl (7, [.int 2, .int (f3 i1_2.toNatClampNeg), .null, .int 0, .int 0])))) (N + 1) (.inl (8, (3, .inr (.inr (.inr (.inr (fun _ => none)))))))) N (.inr (.inl (7, [.int 2, .int (f3 i1_2.toNatClampNeg), .ref (N + 1), .int 0, .int 0])))) N = .inr (.inl (7, [.int 2, .int (f3 i1_2.toNatClampNeg), .ref (N + 1), .int 0, .int 0])) := up_eq
            refine w_mv (pc1 := 32) (st1 := [.ref N]) rfl rfl rfl ?_
            refine w_mv (pc1 := 33) (st1 := [.int 0, .ref N]) rfl rfl rfl ?_
            refine cw_pf (c1 := .inr (.inl (7, [.int 2, .int (f3 i1_2.toNatClampNeg), .ref (N + 1), .int 0, .int 0]))) (pc1 := 36) rfl (by omega) (by omega) g28 rfl rfl rfl rfl ?_
            rw [va_uu]
            have g29 : (va_up (va_up (va_up (va_up (va_up G 6 (.inr (.inl (1, [.ref 7, .int i1_1, .int (i1_2 + 1)])))) N (.inr (.inl (7, [.int 0, .int 0, .null, .int 0, .int 0])))) N (.inr (.inl (7, [.int 2, .int (f3 i1_2.toNatClampNeg), .null, .int 0, .int 0])))) (N + 1) (.inl (8, (3, .inr (.inr (.inr (.inr (fun _ => none)))))))) N (.inr (.inl (7, [.int 2, .int (f3 i1_2.toNatClampNeg), .ref (N + 1), .int 0, .int 0])))) 7 = .inl (1, (48, .inl f3)) := (va_ne (ne_ao g25 g28)).trans ((va_ne (ne_ao g25 g28)).symm.trans g25)
            have g30 : (va_up (va_up (va_up (va_up (va_up G 6 (.inr (.inl (1, [.ref 7, .int i1_1, .int (i1_2 + 1)])))) N (.inr (.inl (7, [.int 0, .int 0, .null, .int 0, .int 0])))) N (.inr (.inl (7, [.int 2, .int (f3 i1_2.toNatClampNeg), .null, .int 0, .int 0])))) (N + 1) (.inl (8, (3, .inr (.inr (.inr (.inr (fun _ => none)))))))) N (.inr (.inl (7, [.int 2, .int (f3 i1_2.toNatClampNeg), .ref (N + 1), .int 0, .int 0])))) 6 = .inr (.inl (1, [.ref 7, .int i1_1, .int (i1_2 + 1)])) := (va_ne (ne_ob g26 g28 (by decide))).trans ((va_ne (ne_ob g26 g28 (by decide))).symm.trans g26)
            have g31 : (va_up (va_up (va_up (va_up (va_up G 6 (.inr (.inl (1, [.ref 7, .int i1_1, .int (i1_2 + 1)])))) N (.inr (.inl (7, [.int 0, .int 0, .null, .int 0, .int 0])))) N (.inr (.inl (7, [.int 2, .int (f3 i1_2.toNatClampNeg), .null, .int 0, .int 0])))) (N + 1) (.inl (8, (3, .inr (.inr (.inr (.inr (fun _ => none)))))))) N (.inr (.inl (7, [.int 2, .int (f3 i1_2.toNatClampNeg), .ref (N + 1), .int 0, .int 0])))) (N + 1) = .inl (8, (3, .inr (.inr (.inr (.inr (fun _ => none)))))) := (va_ne (ne_ao g27 g28)).trans ((va_ne (ne_ao g27 g28)).symm.trans g27)
            have g32 : (va_up (va_up (va_up (va_up (va_up G 6 (.inr (.inl (1, [.ref 7, .int i1_1, .int (i1_2 + 1)])))) N (.inr (.inl (7, [.int 0, .int 0, .null, .int 0, .int 0])))) N (.inr (.inl (7, [.int 2, .int (f3 i1_2.toNatClampNeg), .null, .int 0, .int 0])))) (N + 1) (.inl (8, (3, .inr (.inr (.inr (.inr (fun _ => none)))))))) N (.inr (.inl (7, [.int 2, .int (f3 i1_2.toNatClampNeg), .ref (N + 1), .int 0, .int 0])))) N = .inr (.inl (7, [.int 2, .int (f3 i1_2.toNatClampNeg), .ref (N + 1), .int 0, .int 0])) := up_eq
            refine w_mv (pc1 := 37) (st1 := [.ref N]) rfl rfl rfl ?_
            refine w_mv (pc1 := 38) (st1 := [.int 2, .ref N]) rfl rfl rfl ?_
            refine w_mv (pc1 := 47) (st1 := [.ref N]) rfl rfl rfl ?_
            refine w_mv (pc1 := 48) (st1 := [.int 0, .ref N]) rfl rfl rfl ?_
            refine cw_pf (c1 := .inr (.inl (7, [.int 2, .int (f3 i1_2.toNatClampNeg), .ref (N + 1), .int 0, .int 0]))) (pc1 := 51) rfl (by omega) (by omega) g32 rfl rfl rfl rfl ?_
            rw [va_uu]
            have g33 : (va_up (va_up (va_up (va_up (va_up G 6 (.inr (.inl (1, [.ref 7, .int i1_1, .int (i1_2 + 1)])))) N (.inr (.inl (7, [.int 0, .int 0, .null, .int 0, .int 0])))) N (.inr (.inl (7, [.int 2, .int (f3 i1_2.toNatClampNeg), .null, .int 0, .int 0])))) (N + 1) (.inl (8, (3, .inr (.inr (.inr (.inr (fun _ => none)))))))) N (.inr (.inl (7, [.int 2, .int (f3 i1_2.toNatClampNeg), .ref (N + 1), .int 0, .int 0])))) 7 = .inl (1, (48, .inl f3)) := (va_ne (ne_ao g29 g32)).trans ((va_ne (ne_ao g29 g32)).symm.trans g29)
            have g34 : (va_up (va_up (va_up (va_up (va_up G 6 (.inr (.inl (1, [.ref 7, .int i1_1, .int (i1_2 + 1)])))) N (.inr (.inl (7, [.int 0, .int 0, .null, .int 0, .int 0])))) N (.inr (.inl (7, [.int 2, .int (f3 i1_2.toNatClampNeg), .null, .int 0, .int 0])))) (N + 1) (.inl (8, (3, .inr (.inr (.inr (.inr (fun _ => none)))))))) N (.inr (.inl (7, [.int 2, .int (f3 i1_2.toNatClampNeg), .ref (N + 1), .int 0, .int 0])))) 6 = .inr (.inl (1, [.ref 7, .int i1_1, .int (i1_2 + 1)])) := (va_ne (ne_ob g30 g32 (by decide))).trans ((va_ne (ne_ob g30 g32 (by decide))).symm.trans g30)
            have g35 : (va_up (va_up (va_up (va_up (va_up G 6 (.inr (.inl (1, [.ref 7, .int i1_1, .int (i1_2 + 1)])))) N (.inr (.inl (7, [.int 0, .int 0, .null, .int 0, .int 0])))) N (.inr (.inl (7, [.int 2, .int (f3 i1_2.toNatClampNeg), .null, .int 0, .int 0])))) (N + 1) (.inl (8, (3, .inr (.inr (.inr (.inr (fun _ => none)))))))) N (.inr (.inl (7, [.int 2, .int (f3 i1_2.toNatClampNeg), .ref (N + 1), .int 0, .int 0])))) (N + 1) = .inl (8, (3, .inr (.inr (.inr (.inr (fun _ => none)))))) := (va_ne (ne_ao g31 g32)).trans ((va_ne (ne_ao g31 g32)).symm.trans g31)
            have g36 : (va_up (va_up (va_up (va_up (va_up G 6 (.inr (.inl (1, [.ref 7, .int i1_1, .int (i1_2 + 1)])))) N (.inr (.inl (7, [.int 0, .int 0, .null, .int 0, .int 0])))) N (.inr (.inl (7, [.int 2, .int (f3 i1_2.toNatClampNeg), .null, .int 0, .int 0])))) (N + 1) (.inl (8, (3, .inr (.inr (.inr (.inr (fun _ => none)))))))) N (.inr (.inl (7, [.int 2, .int (f3 i1_2.toNatClampNeg), .ref (N + 1), .int 0, .int 0])))) N = .inr (.inl (7, [.int 2, .int (f3 i1_2.toNatClampNeg), .ref (N + 1), .int 0, .int 0])) := up_eq
            refine w_vret (pc1 := 80) rfl rfl rfl ?_
            refine w_mv (pc1 := 81) (lv1 := [(3, .ref N), (2, .int (f3 i1_2.toNatClampNeg)), (0, .ref 6), (1, .int p1)]) (st1 := []) rfl rfl rfl ?_
            refine w_wk (l1 := [(0, .ref 6), (1, .int p1), (3, .ref N)]) rfl ⟨rfl, rfl, rfl, trivial⟩ ?_
            refine hh d _ _ P (fun r N1 G1 kc1 ks1 q => ?_)
            exact c_acc (hP r N1 G1 _ _ q) (by omega) (by omega)
      ·
        replace hh := hh.2 (Int.not_lt.mp h6)
        refine w_ilt_F (pc1 := 6) rfl (by decide) rfl (show 48 ≤ (f3 i1_2.toNatClampNeg).toInt from (Int.not_lt.mp h6)) ?_
        refine w_mv (pc1 := 7) (st1 := [.int (f3 i1_2.toNatClampNeg)]) rfl rfl rfl ?_
        refine w_mv (pc1 := 9) (st1 := [.int 57, .int (f3 i1_2.toNatClampNeg)]) rfl rfl rfl ?_
        by_cases h37 : 57 < (f3 i1_2.toNatClampNeg).toInt
        ·
          replace hh := hh.1 h37
          refine w_igt_T (pc1 := 16) rfl rfl (show 57 < (f3 i1_2.toNatClampNeg).toInt from h37) ?_
          refine w_mv (pc1 := 17) (st1 := [.int 0]) rfl rfl rfl ?_
          refine w_iret (pc1 := 44) rfl rfl rfl rfl ?_
          refine w_mv (pc1 := 52) (st1 := []) rfl rfl rfl ?_
          refine w_mv (pc1 := 53) (st1 := [.int (f3 i1_2.toNatClampNeg)]) rfl rfl rfl ?_
          refine w_call (M' := sM_27) (vals := [.int (f3 i1_2.toNatClampNeg)]) (rest := []) (lv' := [(0, .int (f3 i1_2.toNatClampNeg))]) rfl rfl rfl rfl rfl rfl rfl rfl rfl rfl ?_
          refine w_mv (pc1 := 1) (st1 := [.int (f3 i1_2.toNatClampNeg)]) rfl rfl rfl ?_
          refine w_mv (pc1 := 3) (st1 := [.int 97, .int (f3 i1_2.toNatClampNeg)]) rfl rfl rfl ?_
          by_cases h38 : (f3 i1_2.toNatClampNeg).toInt < 97
          ·
            replace hh := hh.1 h38
            refine w_ilt_T (pc1 := 16) rfl rfl (show (f3 i1_2.toNatClampNeg).toInt < 97 from h38) ?_
            refine w_mv (pc1 := 17) (st1 := [.int 0]) rfl rfl rfl ?_
            refine w_iret (pc1 := 56) rfl rfl rfl rfl ?_
            refine w_mv (pc1 := 59) (st1 := []) rfl rfl rfl ?_
            refine w_mv (pc1 := 60) (st1 := [.null]) rfl rfl rfl ?_
            refine sx_wp.stop rfl rfl rfl ?_
            exact c_acc (hP _ _ _ _ _ hh) (by omega) (by omega)
          ·
            replace hh := hh.2 (Int.not_lt.mp h38)
            refine w_ilt_F (pc1 := 6) rfl (by decide) rfl (show 97 ≤ (f3 i1_2.toNatClampNeg).toInt from (Int.not_lt.mp h38)) ?_
            refine w_mv (pc1 := 7) (st1 := [.int (f3 i1_2.toNatClampNeg)]) rfl rfl rfl ?_
            refine w_mv (pc1 := 9) (st1 := [.int 122, .int (f3 i1_2.toNatClampNeg)]) rfl rfl rfl ?_
            by_cases h39 : 122 < (f3 i1_2.toNatClampNeg).toInt
            ·
              replace hh := hh.1 h39
              refine w_igt_T (pc1 := 16) rfl rfl (show 122 < (f3 i1_2.toNatClampNeg).toInt from h39) ?_
              refine w_mv (pc1 := 17) (st1 := [.int 0]) rfl rfl rfl ?_
              refine w_iret (pc1 := 56) rfl rfl rfl rfl ?_
              refine w_mv (pc1 := 59) (st1 := []) rfl rfl rfl ?_
              refine w_mv (pc1 := 60) (st1 := [.null]) rfl rfl rfl ?_
              refine sx_wp.stop rfl rfl rfl ?_
              exact c_acc (hP _ _ _ _ _ hh) (by omega) (by omega)
            ·
              replace hh := hh.2 (Int.not_lt.mp h39)
              refine w_igt_F (pc1 := 12) rfl (by decide) rfl (show (f3 i1_2.toNatClampNeg).toInt ≤ 122 from (Int.not_lt.mp h39)) ?_
              refine w_mv (pc1 := 13) (st1 := [.int 1]) rfl rfl rfl ?_
              refine w_mv (pc1 := 17) (st1 := [.int 1]) rfl rfl rfl ?_
              refine w_iret (pc1 := 56) rfl rfl rfl rfl ?_
              refine w_mv (pc1 := 61) (st1 := []) rfl rfl rfl ?_
              refine w_mv (pc1 := 62) (st1 := [.ref 6]) rfl rfl rfl ?_
              refine w_mv (pc1 := 63) (st1 := [.ref 6, .ref 6]) rfl rfl rfl ?_
              refine cw_gf (v := .int i1_2) (pc1 := 66) rfl (by omega) (by omega) g1 rfl rfl ?_
              refine w_mv (pc1 := 67) (st1 := [.int 1, .int i1_2, .ref 6]) rfl rfl rfl ?_
              refine w_mv (pc1 := 68) (st1 := [.int (i1_2 + 1), .ref 6]) rfl rfl rfl ?_
              refine cw_pf (c1 := .inr (.inl (1, [.ref 7, .int i1_1, .int (i1_2 + 1)]))) (pc1 := 71) rfl (by omega) (by omega) g1 rfl rfl rfl rfl ?_
              have g40 : (va_up G 6 (.inr (.inl (1, [.ref 7, .int i1_1, .int (i1_2 + 1)])))) 7 = .inl (1, (48, .inl f3)) := (va_ne (ne_ao g3 g1)).trans g3
              have g41 : (va_up G 6 (.inr (.inl (1, [.ref 7, .int i1_1, .int (i1_2 + 1)])))) 6 = .inr (.inl (1, [.ref 7, .int i1_1, .int (i1_2 + 1)])) := up_eq
              obtain ⟨q42a, hh⟩ := hh
              refine cw_new (k := 5) (c1 := .inr (.inl (7, [.int 0, .int 0, .null, .int 0, .int 0]))) (pc1 := 74) rfl rfl rfl rfl ?_
              have g43 : (va_up (va_up G 6 (.inr (.inl (1, [.ref 7, .int i1_1, .int (i1_2 + 1)])))) N (.inr (.inl (7, [.int 0, .int 0, .null, .int 0, .int 0])))) 7 = .inl (1, (48, .inl f3)) := (va_ne (by omega)).trans g40
              have g44 : (va_up (va_up G 6 (.inr (.inl (1, [.ref 7, .int i1_1, .int (i1_2 + 1)])))) N (.inr (.inl (7, [.int 0, .int 0, .null, .int 0, .int 0])))) 6 = .inr (.inl (1, [.ref 7, .int i1_1, .int (i1_2 + 1)])) := (va_ne (by omega)).trans g41
              have g45 : (va_up (va_up G 6 (.inr (.inl (1, [.ref 7, .int i1_1, .int (i1_2 + 1)])))) N (.inr (.inl (7, [.int 0, .int 0, .null, .int 0, .int 0])))) N = .inr (.inl (7, [.int 0, .int 0, .null, .int 0, .int 0])) := up_eq
              refine w_mv (pc1 := 75) (st1 := [.ref N, .ref N]) rfl rfl rfl ?_
              refine w_mv (pc1 := 76) (st1 := [.int 2, .ref N, .ref N]) rfl rfl rfl ?_
              refine w_mv (pc1 := 77) (st1 := [.int (f3 i1_2.toNatClampNeg), .int 2, .ref N, .ref N]) rfl rfl rfl ?_
              refine w_call (M' := sM_29) (vals := [.ref N, .int 2, .int (f3 i1_2.toNatClampNeg)]) (rest := [.ref N]) (lv' := [(0, .ref N), (1, .int 2), (2, .int (f3 i1_2.toNatClampNeg))]) rfl rfl rfl rfl rfl rfl rfl rfl rfl rfl ?_
              refine w_mv (pc1 := 1) (st1 := [.ref N]) rfl rfl rfl ?_
              refine w_obj (pc1 := 4) (st1 := []) rfl rfl rfl ⟨by omega, Nat.le_of_ble_eq_true rfl⟩ rfl ?_
              refine w_mv (pc1 := 5) (st1 := [.ref N]) rfl rfl rfl ?_
              refine w_mv (pc1 := 6) (st1 := [.int 2, .ref N]) rfl rfl rfl ?_
              refine cw_pf (c1 := .inr (.inl (7, [.int 2, .int 0, .null, .int 0, .int 0]))) (pc1 := 9) rfl (by omega) (by omega) g45 rfl rfl rfl rfl ?_
              have g46 : (va_up (va_up (va_up G 6 (.inr (.inl (1, [.ref 7, .int i1_1, .int (i1_2 + 1)])))) N (.inr (.inl (7, [.int 0, .int 0, .null, .int 0, .int 0])))) N (.inr (.inl (7, [.int 2, .int 0, .null, .int 0, .int 0])))) 7 = .inl (1, (48, .inl f3)) := (va_ne (ne_ao g43 g45)).trans g43
              have g47 : (va_up (va_up (va_up G 6 (.inr (.inl (1, [.ref 7, .int i1_1, .int (i1_2 + 1)])))) N (.inr (.inl (7, [.int 0, .int 0, .null, .int 0, .int 0])))) N (.inr (.inl (7, [.int 2, .int 0, .null, .int 0, .int 0])))) 6 = .inr (.inl (1, [.ref 7, .int i1_1, .int (i1_2 + 1)])) := (va_ne (ne_ob g44 g45 (by decide))).trans g44
              have g48 : (va_up (va_up (va_up G 6 (.inr (.inl (1, [.ref 7, .int i1_1, .int (i1_2 + 1)])))) N (.inr (.inl (7, [.int 0, .int 0, .null, .int 0, .int 0])))) N (.inr (.inl (7, [.int 2, .int 0, .null, .int 0, .int 0])))) N = .inr (.inl (7, [.int 2, .int 0, .null, .int 0, .int 0])) := up_eq
              refine w_mv (pc1 := 10) (st1 := [.ref N]) rfl rfl rfl ?_
              refine w_mv (pc1 := 11) (st1 := [.int (f3 i1_2.toNatClampNeg), .ref N]) rfl rfl rfl ?_
              refine cw_pf (c1 := .inr (.inl (7, [.int 2, .int (f3 i1_2.toNatClampNeg), .null, .int 0, .int 0]))) (pc1 := 14) rfl (by omega) (by omega) g48 rfl rfl rfl rfl ?_
              rw [va_uu]
              have g49 : (va_up (va_up (va_up G 6 (.inr (.inl (1, [.ref 7, .int i1_1, .int (i1_2 + 1)])))) N (.inr (.inl (7, [.int 0, .int 0, .null, .int 0, .int 0])))) N (.inr (.inl (7, [.int 2, .int (f3 i1_2.toNatClampNeg), .null, .int 0, .int 0])))) 7 = .inl (1, (48, .inl f3)) := (va_ne (ne_ao g46 g48)).trans ((va_ne (ne_ao g46 g48)).symm.trans g46)
              have g50 : (va_up (va_up (va_up G 6 (.inr (.inl (1, [.ref 7, .int i1_1, .int (i1_2 + 1)])))) N (.inr (.inl (7, [.int 0, .int 0, .null, .int 0, .int 0])))) N (.inr (.inl (7, [.int 2, .int (f3 i1_2.toNatClampNeg), .null, .int 0, .int 0])))) 6 = .inr (.inl (1, [.ref 7, .int i1_1, .int (i1_2 + 1)])) := (va_ne (ne_ob g47 g48 (by decide))).trans ((va_ne (ne_ob g47 g48 (by decide))).symm.trans g47)
              have g51 : (va_up (va_up (va_up G 6 (.inr (.inl (1, [.ref 7, .int i1_1, .int (i1_2 + 1)])))) N (.inr (.inl (7, [.int 0, .int 0, .null, .int 0, .int 0])))) N (.inr (.inl (7, [.int 2, .int (f3 i1_2.toNatClampNeg), .null, .int 0, .int 0])))) N = .inr (.inl (7, [.int 2, .int (f3 i1_2.toNatClampNeg), .null, .int 0, .int 0])) := up_eq
              refine w_mv (pc1 := 15) (st1 := [.ref N]) rfl rfl rfl ?_
              refine w_mv (pc1 := 16) (st1 := [.int 2, .ref N]) rfl rfl rfl ?_
              refine w_mv (pc1 := 17) (st1 := [.int 2, .int 2, .ref N]) rfl rfl rfl ?_
              refine w_mv (pc1 := 20) (st1 := [.ref N]) rfl rfl rfl ?_
              refine w_mv (pc1 := 21) (st1 := [.int 3, .ref N]) rfl rfl rfl ?_
              refine w_mv (pc1 := 25) (st1 := [.int 3, .ref N]) rfl rfl rfl ?_
              refine cw_newq (n := 3) (pc1 := 28) rfl rfl (by decide) (by decide) (by decide) ?_
              have g52 : (va_up (va_up (va_up (va_up G 6 (.inr (.inl (1, [.ref 7, .int i1_1, .int (i1_2 + 1)])))) N (.inr (.inl (7, [.int 0, .int 0, .null, .int 0, .int 0])))) N (.inr (.inl (7, [.int 2, .int (f3 i1_2.toNatClampNeg), .null, .int 0, .int 0])))) (N + 1) (.inl (8, (3, .inr (.inr (.inr (.inr (fun _ => none)))))))) 7 = .inl (1, (48, .inl f3)) := (va_ne (by omega)).trans g49
              have g53 : (va_up (va_up (va_up (va_up G 6 (.inr (.inl (1, [.ref 7, .int i1_1, .int (i1_2 + 1)])))) N (.inr (.inl (7, [.int 0, .int 0, .null, .int 0, .int 0])))) N (.inr (.inl (7, [.int 2, .int (f3 i1_2.toNatClampNeg), .null, .int 0, .int 0])))) (N + 1) (.inl (8, (3, .inr (.inr (.inr (.inr (fun _ => none)))))))) 6 = .inr (.inl (1, [.ref 7, .int i1_1, .int (i1_2 + 1)])) := (va_ne (by omega)).trans g50
              have g54 : (va_up (va_up (va_up (va_up G 6 (.inr (.inl (1, [.ref 7, .int i1_1, .int (i1_2 + 1)])))) N (.inr (.inl (7, [.int 0, .int 0, .null, .int 0, .int 0])))) N (.inr (.inl (7, [.int 2, .int (f3 i1_2.toNatClampNeg), .null, .int 0, .int 0])))) (N + 1) (.inl (8, (3, .inr (.inr (.inr (.inr (fun _ => none)))))))) N = .inr (.inl (7, [.int 2, .int (f3 i1_2.toNatClampNeg), .null, .int 0, .int 0])) := (va_ne (by omega)).trans g51
              have g55 : (va_up (va_up (va_up (va_up G 6 (.inr (.inl (1, [.ref 7, .int i1_1, .int (i1_2 + 1)])))) N (.inr (.inl (7, [.int 0, .int 0, .null, .int 0, .int 0])))) N (.inr (.inl (7, [.int 2, .int (f3 i1_2.toNatClampNeg), .null, .int 0, .int 0])))) (N + 1) (.inl (8, (3, .inr (.inr (.inr (.inr (fun _ => none)))))))) (N + 1) = .inl (8, (3, .inr (.inr (.inr (.inr (fun _ => none)))))) := up_eq
              refine cw_pf (c1 := .inr (.inl (7, [.int 2, .int (f3 i1_2.toNatClampNeg), .ref (N + 1), .int 0, .int 0]))) (pc1 := 31) rfl (by omega) (by omega) g54 rfl rfl rfl rfl ?_
              have g56 : (va_up (va_up (va_up (va_up (va_up G 6 (.inr (.inl (1, [.ref 7, .int i1_1, .int (i1_2 + 1)])))) N (.inr (.inl (7, [.int 0, .int 0, .null, .int 0, .int 0])))) N (.inr (.inl (7, [.int 2, .int (f3 i1_2.toNatClampNeg), .null, .int 0, .int 0])))) (N + 1) (.inl (8, (3, .inr (.inr (.inr (.inr (fun _ => none)))))))) N (.inr (.inl (7, [.int 2, .int (f3 i1_2.toNatClampNeg), .ref (N + 1), .int 0, .int 0])))) 7 = .inl (1, (48, .inl f3)) := (va_ne (ne_ao g52 g54)).trans g52
              have g57 : (va_up (va_up (va_up (va_up (va_up G 6 (.inr (.inl (1, [.ref 7, .int i1_1, .int (i1_2 + 1)])))) N (.inr (.inl (7, [.int 0, .int 0, .null, .int 0, .int 0])))) N (.inr (.inl (7, [.int 2, .int (f3 i1_2.toNatClampNeg), .null, .int 0, .int 0])))) (N + 1) (.inl (8, (3, .inr (.inr (.inr (.inr (fun _ => none)))))))) N (.inr (.inl (7, [.int 2, .int (f3 i1_2.toNatClampNeg), .ref (N + 1), .int 0, .int 0])))) 6 = .inr (.inl (1, [.ref 7, .int i1_1, .int (i1_2 + 1)])) := (va_ne (ne_ob g53 g54 (by decide))).trans g53
              have g58 : (va_up (va_up (va_up (va_up (va_up G 6 (.inr (.inl (1, [.ref 7, .int i1_1, .int (i1_2 + 1)])))) N (.inr (.inl (7, [.int 0, .int 0, .null, .int 0, .int 0])))) N (.inr (.inl (7, [.int 2, .int (f3 i1_2.toNatClampNeg), .null, .int 0, .int 0])))) (N + 1) (.inl (8, (3, .inr (.inr (.inr (.inr (fun _ => none)))))))) N (.inr (.inl (7, [.int 2, .int (f3 i1_2.toNatClampNeg), .ref (N + 1), .int 0, .int 0])))) (N + 1) = .inl (8, (3, .inr (.inr (.inr (.inr (fun _ => none)))))) := (va_ne (ne_ao g55 g54)).trans g55
              have g59 : (va_up (va_up (va_up (va_up (va_up G 6 (.inr (.inl (1, [.ref 7, .int i1_1, .int (i1_2 + 1)])))) N (.inr (.inl (7, [.int 0, .int 0, .null, .int 0, .int 0])))) N (.inr (.inl (7, [.int 2, .int (f3 i1_2.toNatClampNeg), .null, .int 0, .int 0])))) (N + 1) (.inl (8, (3, .inr (.inr (.inr (.inr (fun _ => none)))))))) N (.inr (.inl (7, [.int 2, .int (f3 i1_2.toNatClampNeg), .ref (N + 1), .int 0, .int 0])))) N = .inr (.inl (7, [.int 2, .int (f3 i1_2.toNatClampNeg), .ref (N + 1), .int 0, .int 0])) := up_eq
              refine w_mv (pc1 := 32) (st1 := [.ref N]) rfl rfl rfl ?_
              refine w_mv (pc1 := 33) (st1 := [.int 0, .ref N]) rfl rfl rfl ?_
              refine cw_pf (c1 := .inr (.inl (7, [.int 2, .int (f3 i1_2.toNatClampNeg), .ref (N + 1), .int 0, .int 0]))) (pc1 := 36) rfl (by omega) (by omega) g59 rfl rfl rfl rfl ?_
              rw [va_uu]
              have g60 : (va_up (va_up (va_up (va_up (va_up G 6 (.inr (.inl (1, [.ref 7, .int i1_1, .int (i1_2 + 1)])))) N (.inr (.inl (7, [.int 0, .int 0, .null, .int 0, .int 0])))) N (.inr (.inl (7, [.int 2, .int (f3 i1_2.toNatClampNeg), .null, .int 0, .int 0])))) (N + 1) (.inl (8, (3, .inr (.inr (.inr (.inr (fun _ => none)))))))) N (.inr (.inl (7, [.int 2, .int (f3 i1_2.toNatClampNeg), .ref (N + 1), .int 0, .int 0])))) 7 = .inl (1, (48, .inl f3)) := (va_ne (ne_ao g56 g59)).trans ((va_ne (ne_ao g56 g59)).symm.trans g56)
              have g61 : (va_up (va_up (va_up (va_up (va_up G 6 (.inr (.inl (1, [.ref 7, .int i1_1, .int (i1_2 + 1)])))) N (.inr (.inl (7, [.int 0, .int 0, .null, .int 0, .int 0])))) N (.inr (.inl (7, [.int 2, .int (f3 i1_2.toNatClampNeg), .null, .int 0, .int 0])))) (N + 1) (.inl (8, (3, .inr (.inr (.inr (.inr (fun _ => none)))))))) N (.inr (.inl (7, [.int 2, .int (f3 i1_2.toNatClampNeg), .ref (N + 1), .int 0, .int 0])))) 6 = .inr (.inl (1, [.ref 7, .int i1_1, .int (i1_2 + 1)])) := (va_ne (ne_ob g57 g59 (by decide))).trans ((va_ne (ne_ob g57 g59 (by decide))).symm.trans g57)
              have g62 : (va_up (va_up (va_up (va_up (va_up G 6 (.inr (.inl (1, [.ref 7, .int i1_1, .int (i1_2 + 1)])))) N (.inr (.inl (7, [.int 0, .int 0, .null, .int 0, .int 0])))) N (.inr (.inl (7, [.int 2, .int (f3 i1_2.toNatClampNeg), .null, .int 0, .int 0])))) (N + 1) (.inl (8, (3, .inr (.inr (.inr (.inr (fun _ => none)))))))) N (.inr (.inl (7, [.int 2, .int (f3 i1_2.toNatClampNeg), .ref (N + 1), .int 0, .int 0])))) (N + 1) = .inl (8, (3, .inr (.inr (.inr (.inr (fun _ => none)))))) := (va_ne (ne_ao g58 g59)).trans ((va_ne (ne_ao g58 g59)).symm.trans g58)
              have g63 : (va_up (va_up (va_up (va_up (va_up G 6 (.inr (.inl (1, [.ref 7, .int i1_1, .int (i1_2 + 1)])))) N (.inr (.inl (7, [.int 0, .int 0, .null, .int 0, .int 0])))) N (.inr (.inl (7, [.int 2, .int (f3 i1_2.toNatClampNeg), .null, .int 0, .int 0])))) (N + 1) (.inl (8, (3, .inr (.inr (.inr (.inr (fun _ => none)))))))) N (.inr (.inl (7, [.int 2, .int (f3 i1_2.toNatClampNeg), .ref (N + 1), .int 0, .int 0])))) N = .inr (.inl (7, [.int 2, .int (f3 i1_2.toNatClampNeg), .ref (N + 1), .int 0, .int 0])) := up_eq
              refine w_mv (pc1 := 37) (st1 := [.ref N]) rfl rfl rfl ?_
              refine w_mv (pc1 := 38) (st1 := [.int 2, .ref N]) rfl rfl rfl ?_
              refine w_mv (pc1 := 47) (st1 := [.ref N]) rfl rfl rfl ?_
              refine w_mv (pc1 := 48) (st1 := [.int 0, .ref N]) rfl rfl rfl ?_
              refine cw_pf (c1 := .inr (.inl (7, [.int 2, .int (f3 i1_2.toNatClampNeg), .ref (N + 1), .int 0, .int 0]))) (pc1 := 51) rfl (by omega) (by omega) g63 rfl rfl rfl rfl ?_
              rw [va_uu]
              have g64 : (va_up (va_up (va_up (va_up (va_up G 6 (.inr (.inl (1, [.ref 7, .int i1_1, .int (i1_2 + 1)])))) N (.inr (.inl (7, [.int 0, .int 0, .null, .int 0, .int 0])))) N (.inr (.inl (7, [.int 2, .int (f3 i1_2.toNatClampNeg), .null, .int 0, .int 0])))) (N + 1) (.inl (8, (3, .inr (.inr (.inr (.inr (fun _ => none)))))))) N (.inr (.inl (7, [.int 2, .int (f3 i1_2.toNatClampNeg), .ref (N + 1), .int 0, .int 0])))) 7 = .inl (1, (48, .inl f3)) := (va_ne (ne_ao g60 g63)).trans ((va_ne (ne_ao g60 g63)).symm.trans g60)
              have g65 : (va_up (va_up (va_up (va_up (va_up G 6 (.inr (.inl (1, [.ref 7, .int i1_1, .int (i1_2 + 1)])))) N (.inr (.inl (7, [.int 0, .int 0, .null, .int 0, .int 0])))) N (.inr (.inl (7, [.int 2, .int (f3 i1_2.toNatClampNeg), .null, .int 0, .int 0])))) (N + 1) (.inl (8, (3, .inr (.inr (.inr (.inr (fun _ => none)))))))) N (.inr (.inl (7, [.int 2, .int (f3 i1_2.toNatClampNeg), .ref (N + 1), .int 0, .int 0])))) 6 = .inr (.inl (1, [.ref 7, .int i1_1, .int (i1_2 + 1)])) := (va_ne (ne_ob g61 g63 (by decide))).trans ((va_ne (ne_ob g61 g63 (by decide))).symm.trans g61)
              have g66 : (va_up (va_up (va_up (va_up (va_up G 6 (.inr (.inl (1, [.ref 7, .int i1_1, .int (i1_2 + 1)])))) N (.inr (.inl (7, [.int 0, .int 0, .null, .int 0, .int 0])))) N (.inr (.inl (7, [.int 2, .int (f3 i1_2.toNatClampNeg), .null, .int 0, .int 0])))) (N + 1) (.inl (8, (3, .inr (.inr (.inr (.inr (fun _ => none)))))))) N (.inr (.inl (7, [.int 2, .int (f3 i1_2.toNatClampNeg), .ref (N + 1), .int 0, .int 0])))) (N + 1) = .inl (8, (3, .inr (.inr (.inr (.inr (fun _ => none)))))) := (va_ne (ne_ao g62 g63)).trans ((va_ne (ne_ao g62 g63)).symm.trans g62)
              have g67 : (va_up (va_up (va_up (va_up (va_up G 6 (.inr (.inl (1, [.ref 7, .int i1_1, .int (i1_2 + 1)])))) N (.inr (.inl (7, [.int 0, .int 0, .null, .int 0, .int 0])))) N (.inr (.inl (7, [.int 2, .int (f3 i1_2.toNatClampNeg), .null, .int 0, .int 0])))) (N + 1) (.inl (8, (3, .inr (.inr (.inr (.inr (fun _ => none)))))))) N (.inr (.inl (7, [.int 2, .int (f3 i1_2.toNatClampNeg), .ref (N + 1), .int 0, .int 0])))) N = .inr (.inl (7, [.int 2, .int (f3 i1_2.toNatClampNeg), .ref (N + 1), .int 0, .int 0])) := up_eq
              refine w_vret (pc1 := 80) rfl rfl rfl ?_
              refine w_mv (pc1 := 81) (lv1 := [(3, .ref N), (2, .int (f3 i1_2.toNatClampNeg)), (0, .ref 6), (1, .int p1)]) (st1 := []) rfl rfl rfl ?_
              refine w_wk (l1 := [(0, .ref 6), (1, .int p1), (3, .ref N)]) rfl ⟨rfl, rfl, rfl, trivial⟩ ?_
              refine hh d _ _ P (fun r N1 G1 kc1 ks1 q => ?_)
              exact c_acc (hP r N1 G1 _ _ q) (by omega) (by omega)
        ·
          replace hh := hh.2 (Int.not_lt.mp h37)
          refine w_igt_F (pc1 := 12) rfl (by decide) rfl (show (f3 i1_2.toNatClampNeg).toInt ≤ 57 from (Int.not_lt.mp h37)) ?_
          refine w_mv (pc1 := 13) (st1 := [.int 1]) rfl rfl rfl ?_
          refine w_mv (pc1 := 17) (st1 := [.int 1]) rfl rfl rfl ?_
          refine w_iret (pc1 := 44) rfl rfl rfl rfl ?_
          refine w_mv (pc1 := 47) (st1 := []) rfl rfl rfl ?_
          refine w_mv (pc1 := 48) (st1 := [.ref 6]) rfl rfl rfl ?_
          refine w_call (M' := sM_31) (vals := [.ref 6]) (rest := []) (lv' := [(0, .ref 6)]) rfl rfl rfl rfl rfl rfl (cH_rcv (by omega) (by omega) g1) rfl rfl rfl ?_
          refine hh _ _ _ _ (fun r68 N68 G68 kc68 ks68 hh => ?_)
          obtain ⟨o68, er68, hh⟩ := hh
          subst er68
          refine w_kr (pc1 := 51) rfl ?_
          refine sx_wp.stop (v := .inl (some (va_rf o68))) (hs1 := cH (N68) G68) (dc1 := 0) (ds1 := 0) rfl rfl (by cases o68 <;> rfl) ?_
          exact c_acc (hP _ _ _ _ _ hh) (by omega) (by omega)
    ·
      replace hh := hh.2 (Int.not_lt.mp h5)
      refine w_ilt_F (pc1 := 11) rfl (by decide) rfl (show 65 ≤ (f3 i1_2.toNatClampNeg).toInt from (Int.not_lt.mp h5)) ?_
      refine w_mv (pc1 := 12) (st1 := [.int (f3 i1_2.toNatClampNeg)]) rfl rfl rfl ?_
      refine w_mv (pc1 := 14) (st1 := [.int 90, .int (f3 i1_2.toNatClampNeg)]) rfl rfl rfl ?_
      by_cases h69 : 90 < (f3 i1_2.toNatClampNeg).toInt
      ·
        replace hh := hh.1 h69
        refine w_igt_T (pc1 := 40) rfl rfl (show 90 < (f3 i1_2.toNatClampNeg).toInt from h69) ?_
        refine w_mv (pc1 := 41) (st1 := [.int (f3 i1_2.toNatClampNeg)]) rfl rfl rfl ?_
        refine w_call (M' := sM_30) (vals := [.int (f3 i1_2.toNatClampNeg)]) (rest := []) (lv' := [(0, .int (f3 i1_2.toNatClampNeg))]) rfl rfl rfl rfl rfl rfl rfl rfl rfl rfl ?_
        refine w_mv (pc1 := 1) (st1 := [.int (f3 i1_2.toNatClampNeg)]) rfl rfl rfl ?_
        refine w_mv (pc1 := 3) (st1 := [.int 48, .int (f3 i1_2.toNatClampNeg)]) rfl rfl rfl ?_
        by_cases h70 : (f3 i1_2.toNatClampNeg).toInt < 48
        ·
          replace hh := hh.1 h70
          refine w_ilt_T (pc1 := 16) rfl rfl (show (f3 i1_2.toNatClampNeg).toInt < 48 from h70) ?_
          refine w_mv (pc1 := 17) (st1 := [.int 0]) rfl rfl rfl ?_
          refine w_iret (pc1 := 44) rfl rfl rfl rfl ?_
          refine w_mv (pc1 := 52) (st1 := []) rfl rfl rfl ?_
          refine w_mv (pc1 := 53) (st1 := [.int (f3 i1_2.toNatClampNeg)]) rfl rfl rfl ?_
          refine w_call (M' := sM_27) (vals := [.int (f3 i1_2.toNatClampNeg)]) (rest := []) (lv' := [(0, .int (f3 i1_2.toNatClampNeg))]) rfl rfl rfl rfl rfl rfl rfl rfl rfl rfl ?_
          refine w_mv (pc1 := 1) (st1 := [.int (f3 i1_2.toNatClampNeg)]) rfl rfl rfl ?_
          refine w_mv (pc1 := 3) (st1 := [.int 97, .int (f3 i1_2.toNatClampNeg)]) rfl rfl rfl ?_
          by_cases h71 : (f3 i1_2.toNatClampNeg).toInt < 97
          ·
            replace hh := hh.1 h71
            refine w_ilt_T (pc1 := 16) rfl rfl (show (f3 i1_2.toNatClampNeg).toInt < 97 from h71) ?_
            refine w_mv (pc1 := 17) (st1 := [.int 0]) rfl rfl rfl ?_
            refine w_iret (pc1 := 56) rfl rfl rfl rfl ?_
            refine w_mv (pc1 := 59) (st1 := []) rfl rfl rfl ?_
            refine w_mv (pc1 := 60) (st1 := [.null]) rfl rfl rfl ?_
            refine sx_wp.stop rfl rfl rfl ?_
            exact c_acc (hP _ _ _ _ _ hh) (by omega) (by omega)
          ·
            replace hh := hh.2 (Int.not_lt.mp h71)
            refine w_ilt_F (pc1 := 6) rfl (by decide) rfl (show 97 ≤ (f3 i1_2.toNatClampNeg).toInt from (Int.not_lt.mp h71)) ?_
            refine w_mv (pc1 := 7) (st1 := [.int (f3 i1_2.toNatClampNeg)]) rfl rfl rfl ?_
            refine w_mv (pc1 := 9) (st1 := [.int 122, .int (f3 i1_2.toNatClampNeg)]) rfl rfl rfl ?_
            by_cases h72 : 122 < (f3 i1_2.toNatClampNeg).toInt
            ·
              replace hh := hh.1 h72
              refine w_igt_T (pc1 := 16) rfl rfl (show 122 < (f3 i1_2.toNatClampNeg).toInt from h72) ?_
              refine w_mv (pc1 := 17) (st1 := [.int 0]) rfl rfl rfl ?_
              refine w_iret (pc1 := 56) rfl rfl rfl rfl ?_
              refine w_mv (pc1 := 59) (st1 := []) rfl rfl rfl ?_
              refine w_mv (pc1 := 60) (st1 := [.null]) rfl rfl rfl ?_
              refine sx_wp.stop rfl rfl rfl ?_
              exact c_acc (hP _ _ _ _ _ hh) (by omega) (by omega)
            ·
              replace hh := hh.2 (Int.not_lt.mp h72)
              refine w_igt_F (pc1 := 12) rfl (by decide) rfl (show (f3 i1_2.toNatClampNeg).toInt ≤ 122 from (Int.not_lt.mp h72)) ?_
              refine w_mv (pc1 := 13) (st1 := [.int 1]) rfl rfl rfl ?_
              refine w_mv (pc1 := 17) (st1 := [.int 1]) rfl rfl rfl ?_
              refine w_iret (pc1 := 56) rfl rfl rfl rfl ?_
              refine w_mv (pc1 := 61) (st1 := []) rfl rfl rfl ?_
              refine w_mv (pc1 := 62) (st1 := [.ref 6]) rfl rfl rfl ?_
              refine w_mv (pc1 := 63) (st1 := [.ref 6, .ref 6]) rfl rfl rfl ?_
              refine cw_gf (v := .int i1_2) (pc1 := 66) rfl (by omega) (by omega) g1 rfl rfl ?_
              refine w_mv (pc1 := 67) (st1 := [.int 1, .int i1_2, .ref 6]) rfl rfl rfl ?_
              refine w_mv (pc1 := 68) (st1 := [.int (i1_2 + 1), .ref 6]) rfl rfl rfl ?_
              refine cw_pf (c1 := .inr (.inl (1, [.ref 7, .int i1_1, .int (i1_2 + 1)]))) (pc1 := 71) rfl (by omega) (by omega) g1 rfl rfl rfl rfl ?_
              have g73 : (va_up G 6 (.inr (.inl (1, [.ref 7, .int i1_1, .int (i1_2 + 1)])))) 7 = .inl (1, (48, .inl f3)) := (va_ne (ne_ao g3 g1)).trans g3
              have g74 : (va_up G 6 (.inr (.inl (1, [.ref 7, .int i1_1, .int (i1_2 + 1)])))) 6 = .inr (.inl (1, [.ref 7, .int i1_1, .int (i1_2 + 1)])) := up_eq
              obtain ⟨q75a, hh⟩ := hh
              refine cw_new (k := 5) (c1 := .inr (.inl (7, [.int 0, .int 0, .null, .int 0, .int 0]))) (pc1 := 74) rfl rfl rfl rfl ?_
              have g76 : (va_up (va_up G 6 (.inr (.inl (1, [.ref 7, .int i1_1, .int (i1_2 + 1)])))) N (.inr (.inl (7, [.int 0, .int 0, .null, .int 0, .int 0])))) 7 = .inl (1, (48, .inl f3)) := (va_ne (by omega)).trans g73
              have g77 : (va_up (va_up G 6 (.inr (.inl (1, [.ref 7, .int i1_1, .int (i1_2 + 1)])))) N (.inr (.inl (7, [.int 0, .int 0, .null, .int 0, .int 0])))) 6 = .inr (.inl (1, [.ref 7, .int i1_1, .int (i1_2 + 1)])) := (va_ne (by omega)).trans g74
              have g78 : (va_up (va_up G 6 (.inr (.inl (1, [.ref 7, .int i1_1, .int (i1_2 + 1)])))) N (.inr (.inl (7, [.int 0, .int 0, .null, .int 0, .int 0])))) N = .inr (.inl (7, [.int 0, .int 0, .null, .int 0, .int 0])) := up_eq
              refine w_mv (pc1 := 75) (st1 := [.ref N, .ref N]) rfl rfl rfl ?_
              refine w_mv (pc1 := 76) (st1 := [.int 2, .ref N, .ref N]) rfl rfl rfl ?_
              refine w_mv (pc1 := 77) (st1 := [.int (f3 i1_2.toNatClampNeg), .int 2, .ref N, .ref N]) rfl rfl rfl ?_
              refine w_call (M' := sM_29) (vals := [.ref N, .int 2, .int (f3 i1_2.toNatClampNeg)]) (rest := [.ref N]) (lv' := [(0, .ref N), (1, .int 2), (2, .int (f3 i1_2.toNatClampNeg))]) rfl rfl rfl rfl rfl rfl rfl rfl rfl rfl ?_
              refine w_mv (pc1 := 1) (st1 := [.ref N]) rfl rfl rfl ?_
              refine w_obj (pc1 := 4) (st1 := []) rfl rfl rfl ⟨by omega, Nat.le_of_ble_eq_true rfl⟩ rfl ?_
              refine w_mv (pc1 := 5) (st1 := [.ref N]) rfl rfl rfl ?_
              refine w_mv (pc1 := 6) (st1 := [.int 2, .ref N]) rfl rfl rfl ?_
              refine cw_pf (c1 := .inr (.inl (7, [.int 2, .int 0, .null, .int 0, .int 0]))) (pc1 := 9) rfl (by omega) (by omega) g78 rfl rfl rfl rfl ?_
              have g79 : (va_up (va_up (va_up G 6 (.inr (.inl (1, [.ref 7, .int i1_1, .int (i1_2 + 1)])))) N (.inr (.inl (7, [.int 0, .int 0, .null, .int 0, .int 0])))) N (.inr (.inl (7, [.int 2, .int 0, .null, .int 0, .int 0])))) 7 = .inl (1, (48, .inl f3)) := (va_ne (ne_ao g76 g78)).trans g76
              have g80 : (va_up (va_up (va_up G 6 (.inr (.inl (1, [.ref 7, .int i1_1, .int (i1_2 + 1)])))) N (.inr (.inl (7, [.int 0, .int 0, .null, .int 0, .int 0])))) N (.inr (.inl (7, [.int 2, .int 0, .null, .int 0, .int 0])))) 6 = .inr (.inl (1, [.ref 7, .int i1_1, .int (i1_2 + 1)])) := (va_ne (ne_ob g77 g78 (by decide))).trans g77
              have g81 : (va_up (va_up (va_up G 6 (.inr (.inl (1, [.ref 7, .int i1_1, .int (i1_2 + 1)])))) N (.inr (.inl (7, [.int 0, .int 0, .null, .int 0, .int 0])))) N (.inr (.inl (7, [.int 2, .int 0, .null, .int 0, .int 0])))) N = .inr (.inl (7, [.int 2, .int 0, .null, .int 0, .int 0])) := up_eq
              refine w_mv (pc1 := 10) (st1 := [.ref N]) rfl rfl rfl ?_
              refine w_mv (pc1 := 11) (st1 := [.int (f3 i1_2.toNatClampNeg), .ref N]) rfl rfl rfl ?_
              refine cw_pf (c1 := .inr (.inl (7, [.int 2, .int (f3 i1_2.toNatClampNeg), .null, .int 0, .int 0]))) (pc1 := 14) rfl (by omega) (by omega) g81 rfl rfl rfl rfl ?_
              rw [va_uu]
              have g82 : (va_up (va_up (va_up G 6 (.inr (.inl (1, [.ref 7, .int i1_1, .int (i1_2 + 1)])))) N (.inr (.inl (7, [.int 0, .int 0, .null, .int 0, .int 0])))) N (.inr (.inl (7, [.int 2, .int (f3 i1_2.toNatClampNeg), .null, .int 0, .int 0])))) 7 = .inl (1, (48, .inl f3)) := (va_ne (ne_ao g79 g81)).trans ((va_ne (ne_ao g79 g81)).symm.trans g79)
              have g83 : (va_up (va_up (va_up G 6 (.inr (.inl (1, [.ref 7, .int i1_1, .int (i1_2 + 1)])))) N (.inr (.inl (7, [.int 0, .int 0, .null, .int 0, .int 0])))) N (.inr (.inl (7, [.int 2, .int (f3 i1_2.toNatClampNeg), .null, .int 0, .int 0])))) 6 = .inr (.inl (1, [.ref 7, .int i1_1, .int (i1_2 + 1)])) := (va_ne (ne_ob g80 g81 (by decide))).trans ((va_ne (ne_ob g80 g81 (by decide))).symm.trans g80)
              have g84 : (va_up (va_up (va_up G 6 (.inr (.inl (1, [.ref 7, .int i1_1, .int (i1_2 + 1)])))) N (.inr (.inl (7, [.int 0, .int 0, .null, .int 0, .int 0])))) N (.inr (.inl (7, [.int 2, .int (f3 i1_2.toNatClampNeg), .null, .int 0, .int 0])))) N = .inr (.inl (7, [.int 2, .int (f3 i1_2.toNatClampNeg), .null, .int 0, .int 0])) := up_eq
              refine w_mv (pc1 := 15) (st1 := [.ref N]) rfl rfl rfl ?_
              refine w_mv (pc1 := 16) (st1 := [.int 2, .ref N]) rfl rfl rfl ?_
              refine w_mv (pc1 := 17) (st1 := [.int 2, .int 2, .ref N]) rfl rfl rfl ?_
              refine w_mv (pc1 := 20) (st1 := [.ref N]) rfl rfl rfl ?_
              refine w_mv (pc1 := 21) (st1 := [.int 3, .ref N]) rfl rfl rfl ?_
              refine w_mv (pc1 := 25) (st1 := [.int 3, .ref N]) rfl rfl rfl ?_
              refine cw_newq (n := 3) (pc1 := 28) rfl rfl (by decide) (by decide) (by decide) ?_
              have g85 : (va_up (va_up (va_up (va_up G 6 (.inr (.inl (1, [.ref 7, .int i1_1, .int (i1_2 + 1)])))) N (.inr (.inl (7, [.int 0, .int 0, .null, .int 0, .int 0])))) N (.inr (.inl (7, [.int 2, .int (f3 i1_2.toNatClampNeg), .null, .int 0, .int 0])))) (N + 1) (.inl (8, (3, .inr (.inr (.inr (.inr (fun _ => none)))))))) 7 = .inl (1, (48, .inl f3)) := (va_ne (by omega)).trans g82
              have g86 : (va_up (va_up (va_up (va_up G 6 (.inr (.inl (1, [.ref 7, .int i1_1, .int (i1_2 + 1)])))) N (.inr (.inl (7, [.int 0, .int 0, .null, .int 0, .int 0])))) N (.inr (.inl (7, [.int 2, .int (f3 i1_2.toNatClampNeg), .null, .int 0, .int 0])))) (N + 1) (.inl (8, (3, .inr (.inr (.inr (.inr (fun _ => none)))))))) 6 = .inr (.inl (1, [.ref 7, .int i1_1, .int (i1_2 + 1)])) := (va_ne (by omega)).trans g83
              have g87 : (va_up (va_up (va_up (va_up G 6 (.inr (.inl (1, [.ref 7, .int i1_1, .int (i1_2 + 1)])))) N (.inr (.inl (7, [.int 0, .int 0, .null, .int 0, .int 0])))) N (.inr (.inl (7, [.int 2, .int (f3 i1_2.toNatClampNeg), .null, .int 0, .int 0])))) (N + 1) (.inl (8, (3, .inr (.inr (.inr (.inr (fun _ => none)))))))) N = .inr (.inl (7, [.int 2, .int (f3 i1_2.toNatClampNeg), .null, .int 0, .int 0])) := (va_ne (by omega)).trans g84
              have g88 : (va_up (va_up (va_up (va_up G 6 (.inr (.inl (1, [.ref 7, .int i1_1, .int (i1_2 + 1)])))) N (.inr (.inl (7, [.int 0, .int 0, .null, .int 0, .int 0])))) N (.inr (.inl (7, [.int 2, .int (f3 i1_2.toNatClampNeg), .null, .int 0, .int 0])))) (N + 1) (.inl (8, (3, .inr (.inr (.inr (.inr (fun _ => none)))))))) (N + 1) = .inl (8, (3, .inr (.inr (.inr (.inr (fun _ => none)))))) := up_eq
              refine cw_pf (c1 := .inr (.inl (7, [.int 2, .int (f3 i1_2.toNatClampNeg), .ref (N + 1), .int 0, .int 0]))) (pc1 := 31) rfl (by omega) (by omega) g87 rfl rfl rfl rfl ?_
              have g89 : (va_up (va_up (va_up (va_up (va_up G 6 (.inr (.inl (1, [.ref 7, .int i1_1, .int (i1_2 + 1)])))) N (.inr (.inl (7, [.int 0, .int 0, .null, .int 0, .int 0])))) N (.inr (.inl (7, [.int 2, .int (f3 i1_2.toNatClampNeg), .null, .int 0, .int 0])))) (N + 1) (.inl (8, (3, .inr (.inr (.inr (.inr (fun _ => none)))))))) N (.inr (.inl (7, [.int 2, .int (f3 i1_2.toNatClampNeg), .ref (N + 1), .int 0, .int 0])))) 7 = .inl (1, (48, .inl f3)) := (va_ne (ne_ao g85 g87)).trans g85
              have g90 : (va_up (va_up (va_up (va_up (va_up G 6 (.inr (.inl (1, [.ref 7, .int i1_1, .int (i1_2 + 1)])))) N (.inr (.inl (7, [.int 0, .int 0, .null, .int 0, .int 0])))) N (.inr (.inl (7, [.int 2, .int (f3 i1_2.toNatClampNeg), .null, .int 0, .int 0])))) (N + 1) (.inl (8, (3, .inr (.inr (.inr (.inr (fun _ => none)))))))) N (.inr (.inl (7, [.int 2, .int (f3 i1_2.toNatClampNeg), .ref (N + 1), .int 0, .int 0])))) 6 = .inr (.inl (1, [.ref 7, .int i1_1, .int (i1_2 + 1)])) := (va_ne (ne_ob g86 g87 (by decide))).trans g86
              have g91 : (va_up (va_up (va_up (va_up (va_up G 6 (.inr (.inl (1, [.ref 7, .int i1_1, .int (i1_2 + 1)])))) N (.inr (.inl (7, [.int 0, .int 0, .null, .int 0, .int 0])))) N (.inr (.inl (7, [.int 2, .int (f3 i1_2.toNatClampNeg), .null, .int 0, .int 0])))) (N + 1) (.inl (8, (3, .inr (.inr (.inr (.inr (fun _ => none)))))))) N (.inr (.inl (7, [.int 2, .int (f3 i1_2.toNatClampNeg), .ref (N + 1), .int 0, .int 0])))) (N + 1) = .inl (8, (3, .inr (.inr (.inr (.inr (fun _ => none)))))) := (va_ne (ne_ao g88 g87)).trans g88
              have g92 : (va_up (va_up (va_up (va_up (va_up G 6 (.inr (.inl (1, [.ref 7, .int i1_1, .int (i1_2 + 1)])))) N (.inr (.inl (7, [.int 0, .int 0, .null, .int 0, .int 0])))) N (.inr (.inl (7, [.int 2, .int (f3 i1_2.toNatClampNeg), .null, .int 0, .int 0])))) (N + 1) (.inl (8, (3, .inr (.inr (.inr (.inr (fun _ => none)))))))) N (.inr (.inl (7, [.int 2, .int (f3 i1_2.toNatClampNeg), .ref (N + 1), .int 0, .int 0])))) N = .inr (.inl (7, [.int 2, .int (f3 i1_2.toNatClampNeg), .ref (N + 1), .int 0, .int 0])) := up_eq
              refine w_mv (pc1 := 32) (st1 := [.ref N]) rfl rfl rfl ?_
              refine w_mv (pc1 := 33) (st1 := [.int 0, .ref N]) rfl rfl rfl ?_
              refine cw_pf (c1 := .inr (.inl (7, [.int 2, .int (f3 i1_2.toNatClampNeg), .ref (N + 1), .int 0, .int 0]))) (pc1 := 36) rfl (by omega) (by omega) g92 rfl rfl rfl rfl ?_
              rw [va_uu]
              have g93 : (va_up (va_up (va_up (va_up (va_up G 6 (.inr (.inl (1, [.ref 7, .int i1_1, .int (i1_2 + 1)])))) N (.inr (.inl (7, [.int 0, .int 0, .null, .int 0, .int 0])))) N (.inr (.inl (7, [.int 2, .int (f3 i1_2.toNatClampNeg), .null, .int 0, .int 0])))) (N + 1) (.inl (8, (3, .inr (.inr (.inr (.inr (fun _ => none)))))))) N (.inr (.inl (7, [.int 2, .int (f3 i1_2.toNatClampNeg), .ref (N + 1), .int 0, .int 0])))) 7 = .inl (1, (48, .inl f3)) := (va_ne (ne_ao g89 g92)).trans ((va_ne (ne_ao g89 g92)).symm.trans g89)
              have g94 : (va_up (va_up (va_up (va_up (va_up G 6 (.inr (.inl (1, [.ref 7, .int i1_1, .int (i1_2 + 1)])))) N (.inr (.inl (7, [.int 0, .int 0, .null, .int 0, .int 0])))) N (.inr (.inl (7, [.int 2, .int (f3 i1_2.toNatClampNeg), .null, .int 0, .int 0])))) (N + 1) (.inl (8, (3, .inr (.inr (.inr (.inr (fun _ => none)))))))) N (.inr (.inl (7, [.int 2, .int (f3 i1_2.toNatClampNeg), .ref (N + 1), .int 0, .int 0])))) 6 = .inr (.inl (1, [.ref 7, .int i1_1, .int (i1_2 + 1)])) := (va_ne (ne_ob g90 g92 (by decide))).trans ((va_ne (ne_ob g90 g92 (by decide))).symm.trans g90)
              have g95 : (va_up (va_up (va_up (va_up (va_up G 6 (.inr (.inl (1, [.ref 7, .int i1_1, .int (i1_2 + 1)])))) N (.inr (.inl (7, [.int 0, .int 0, .null, .int 0, .int 0])))) N (.inr (.inl (7, [.int 2, .int (f3 i1_2.toNatClampNeg), .null, .int 0, .int 0])))) (N + 1) (.inl (8, (3, .inr (.inr (.inr (.inr (fun _ => none)))))))) N (.inr (.inl (7, [.int 2, .int (f3 i1_2.toNatClampNeg), .ref (N + 1), .int 0, .int 0])))) (N + 1) = .inl (8, (3, .inr (.inr (.inr (.inr (fun _ => none)))))) := (va_ne (ne_ao g91 g92)).trans ((va_ne (ne_ao g91 g92)).symm.trans g91)
              have g96 : (va_up (va_up (va_up (va_up (va_up G 6 (.inr (.inl (1, [.ref 7, .int i1_1, .int (i1_2 + 1)])))) N (.inr (.inl (7, [.int 0, .int 0, .null, .int 0, .int 0])))) N (.inr (.inl (7, [.int 2, .int (f3 i1_2.toNatClampNeg), .null, .int 0, .int 0])))) (N + 1) (.inl (8, (3, .inr (.inr (.inr (.inr (fun _ => none)))))))) N (.inr (.inl (7, [.int 2, .int (f3 i1_2.toNatClampNeg), .ref (N + 1), .int 0, .int 0])))) N = .inr (.inl (7, [.int 2, .int (f3 i1_2.toNatClampNeg), .ref (N + 1), .int 0, .int 0])) := up_eq
              refine w_mv (pc1 := 37) (st1 := [.ref N]) rfl rfl rfl ?_
              refine w_mv (pc1 := 38) (st1 := [.int 2, .ref N]) rfl rfl rfl ?_
              refine w_mv (pc1 := 47) (st1 := [.ref N]) rfl rfl rfl ?_
              refine w_mv (pc1 := 48) (st1 := [.int 0, .ref N]) rfl rfl rfl ?_
              refine cw_pf (c1 := .inr (.inl (7, [.int 2, .int (f3 i1_2.toNatClampNeg), .ref (N + 1), .int 0, .int 0]))) (pc1 := 51) rfl (by omega) (by omega) g96 rfl rfl rfl rfl ?_
              rw [va_uu]
              have g97 : (va_up (va_up (va_up (va_up (va_up G 6 (.inr (.inl (1, [.ref 7, .int i1_1, .int (i1_2 + 1)])))) N (.inr (.inl (7, [.int 0, .int 0, .null, .int 0, .int 0])))) N (.inr (.inl (7, [.int 2, .int (f3 i1_2.toNatClampNeg), .null, .int 0, .int 0])))) (N + 1) (.inl (8, (3, .inr (.inr (.inr (.inr (fun _ => none)))))))) N (.inr (.inl (7, [.int 2, .int (f3 i1_2.toNatClampNeg), .ref (N + 1), .int 0, .int 0])))) 7 = .inl (1, (48, .inl f3)) := (va_ne (ne_ao g93 g96)).trans ((va_ne (ne_ao g93 g96)).symm.trans g93)
              have g98 : (va_up (va_up (va_up (va_up (va_up G 6 (.inr (.inl (1, [.ref 7, .int i1_1, .int (i1_2 + 1)])))) N (.inr (.inl (7, [.int 0, .int 0, .null, .int 0, .int 0])))) N (.inr (.inl (7, [.int 2, .int (f3 i1_2.toNatClampNeg), .null, .int 0, .int 0])))) (N + 1) (.inl (8, (3, .inr (.inr (.inr (.inr (fun _ => none)))))))) N (.inr (.inl (7, [.int 2, .int (f3 i1_2.toNatClampNeg), .ref (N + 1), .int 0, .int 0])))) 6 = .inr (.inl (1, [.ref 7, .int i1_1, .int (i1_2 + 1)])) := (va_ne (ne_ob g94 g96 (by decide))).trans ((va_ne (ne_ob g94 g96 (by decide))).symm.trans g94)
              have g99 : (va_up (va_up (va_up (va_up (va_up G 6 (.inr (.inl (1, [.ref 7, .int i1_1, .int (i1_2 + 1)])))) N (.inr (.inl (7, [.int 0, .int 0, .null, .int 0, .int 0])))) N (.inr (.inl (7, [.int 2, .int (f3 i1_2.toNatClampNeg), .null, .int 0, .int 0])))) (N + 1) (.inl (8, (3, .inr (.inr (.inr (.inr (fun _ => none)))))))) N (.inr (.inl (7, [.int 2, .int (f3 i1_2.toNatClampNeg), .ref (N + 1), .int 0, .int 0])))) (N + 1) = .inl (8, (3, .inr (.inr (.inr (.inr (fun _ => none)))))) := (va_ne (ne_ao g95 g96)).trans ((va_ne (ne_ao g95 g96)).symm.trans g95)
              have g100 : (va_up (va_up (va_up (va_up (va_up G 6 (.inr (.inl (1, [.ref 7, .int i1_1, .int (i1_2 + 1)])))) N (.inr (.inl (7, [.int 0, .int 0, .null, .int 0, .int 0])))) N (.inr (.inl (7, [.int 2, .int (f3 i1_2.toNatClampNeg), .null, .int 0, .int 0])))) (N + 1) (.inl (8, (3, .inr (.inr (.inr (.inr (fun _ => none)))))))) N (.inr (.inl (7, [.int 2, .int (f3 i1_2.toNatClampNeg), .ref (N + 1), .int 0, .int 0])))) N = .inr (.inl (7, [.int 2, .int (f3 i1_2.toNatClampNeg), .ref (N + 1), .int 0, .int 0])) := up_eq
              refine w_vret (pc1 := 80) rfl rfl rfl ?_
              refine w_mv (pc1 := 81) (lv1 := [(3, .ref N), (2, .int (f3 i1_2.toNatClampNeg)), (0, .ref 6), (1, .int p1)]) (st1 := []) rfl rfl rfl ?_
              refine w_wk (l1 := [(0, .ref 6), (1, .int p1), (3, .ref N)]) rfl ⟨rfl, rfl, rfl, trivial⟩ ?_
              refine hh d _ _ P (fun r N1 G1 kc1 ks1 q => ?_)
              exact c_acc (hP r N1 G1 _ _ q) (by omega) (by omega)
        ·
          replace hh := hh.2 (Int.not_lt.mp h70)
          refine w_ilt_F (pc1 := 6) rfl (by decide) rfl (show 48 ≤ (f3 i1_2.toNatClampNeg).toInt from (Int.not_lt.mp h70)) ?_
          refine w_mv (pc1 := 7) (st1 := [.int (f3 i1_2.toNatClampNeg)]) rfl rfl rfl ?_
          refine w_mv (pc1 := 9) (st1 := [.int 57, .int (f3 i1_2.toNatClampNeg)]) rfl rfl rfl ?_
          by_cases h101 : 57 < (f3 i1_2.toNatClampNeg).toInt
          ·
            replace hh := hh.1 h101
            refine w_igt_T (pc1 := 16) rfl rfl (show 57 < (f3 i1_2.toNatClampNeg).toInt from h101) ?_
            refine w_mv (pc1 := 17) (st1 := [.int 0]) rfl rfl rfl ?_
            refine w_iret (pc1 := 44) rfl rfl rfl rfl ?_
            refine w_mv (pc1 := 52) (st1 := []) rfl rfl rfl ?_
            refine w_mv (pc1 := 53) (st1 := [.int (f3 i1_2.toNatClampNeg)]) rfl rfl rfl ?_
            refine w_call (M' := sM_27) (vals := [.int (f3 i1_2.toNatClampNeg)]) (rest := []) (lv' := [(0, .int (f3 i1_2.toNatClampNeg))]) rfl rfl rfl rfl rfl rfl rfl rfl rfl rfl ?_
            refine w_mv (pc1 := 1) (st1 := [.int (f3 i1_2.toNatClampNeg)]) rfl rfl rfl ?_
            refine w_mv (pc1 := 3) (st1 := [.int 97, .int (f3 i1_2.toNatClampNeg)]) rfl rfl rfl ?_
            by_cases h102 : (f3 i1_2.toNatClampNeg).toInt < 97
            ·
              replace hh := hh.1 h102
              refine w_ilt_T (pc1 := 16) rfl rfl (show (f3 i1_2.toNatClampNeg).toInt < 97 from h102) ?_
              refine w_mv (pc1 := 17) (st1 := [.int 0]) rfl rfl rfl ?_
              refine w_iret (pc1 := 56) rfl rfl rfl rfl ?_
              refine w_mv (pc1 := 59) (st1 := []) rfl rfl rfl ?_
              refine w_mv (pc1 := 60) (st1 := [.null]) rfl rfl rfl ?_
              refine sx_wp.stop rfl rfl rfl ?_
              exact c_acc (hP _ _ _ _ _ hh) (by omega) (by omega)
            ·
              replace hh := hh.2 (Int.not_lt.mp h102)
              refine w_ilt_F (pc1 := 6) rfl (by decide) rfl (show 97 ≤ (f3 i1_2.toNatClampNeg).toInt from (Int.not_lt.mp h102)) ?_
              refine w_mv (pc1 := 7) (st1 := [.int (f3 i1_2.toNatClampNeg)]) rfl rfl rfl ?_
              refine w_mv (pc1 := 9) (st1 := [.int 122, .int (f3 i1_2.toNatClampNeg)]) rfl rfl rfl ?_
              by_cases h103 : 122 < (f3 i1_2.toNatClampNeg).toInt
              ·
                replace hh := hh.1 h103
                refine w_igt_T (pc1 := 16) rfl rfl (show 122 < (f3 i1_2.toNatClampNeg).toInt from h103) ?_
                refine w_mv (pc1 := 17) (st1 := [.int 0]) rfl rfl rfl ?_
                refine w_iret (pc1 := 56) rfl rfl rfl rfl ?_
                refine w_mv (pc1 := 59) (st1 := []) rfl rfl rfl ?_
                refine w_mv (pc1 := 60) (st1 := [.null]) rfl rfl rfl ?_
                refine sx_wp.stop rfl rfl rfl ?_
                exact c_acc (hP _ _ _ _ _ hh) (by omega) (by omega)
              ·
                replace hh := hh.2 (Int.not_lt.mp h103)
                refine w_igt_F (pc1 := 12) rfl (by decide) rfl (show (f3 i1_2.toNatClampNeg).toInt ≤ 122 from (Int.not_lt.mp h103)) ?_
                refine w_mv (pc1 := 13) (st1 := [.int 1]) rfl rfl rfl ?_
                refine w_mv (pc1 := 17) (st1 := [.int 1]) rfl rfl rfl ?_
                refine w_iret (pc1 := 56) rfl rfl rfl rfl ?_
                refine w_mv (pc1 := 61) (st1 := []) rfl rfl rfl ?_
                refine w_mv (pc1 := 62) (st1 := [.ref 6]) rfl rfl rfl ?_
                refine w_mv (pc1 := 63) (st1 := [.ref 6, .ref 6]) rfl rfl rfl ?_
                refine cw_gf (v := .int i1_2) (pc1 := 66) rfl (by omega) (by omega) g1 rfl rfl ?_
                refine w_mv (pc1 := 67) (st1 := [.int 1, .int i1_2, .ref 6]) rfl rfl rfl ?_
                refine w_mv (pc1 := 68) (st1 := [.int (i1_2 + 1), .ref 6]) rfl rfl rfl ?_
                refine cw_pf (c1 := .inr (.inl (1, [.ref 7, .int i1_1, .int (i1_2 + 1)]))) (pc1 := 71) rfl (by omega) (by omega) g1 rfl rfl rfl rfl ?_
                have g104 : (va_up G 6 (.inr (.inl (1, [.ref 7, .int i1_1, .int (i1_2 + 1)])))) 7 = .inl (1, (48, .inl f3)) := (va_ne (ne_ao g3 g1)).trans g3
                have g105 : (va_up G 6 (.inr (.inl (1, [.ref 7, .int i1_1, .int (i1_2 + 1)])))) 6 = .inr (.inl (1, [.ref 7, .int i1_1, .int (i1_2 + 1)])) := up_eq
                obtain ⟨q106a, hh⟩ := hh
                refine cw_new (k := 5) (c1 := .inr (.inl (7, [.int 0, .int 0, .null, .int 0, .int 0]))) (pc1 := 74) rfl rfl rfl rfl ?_
                have g107 : (va_up (va_up G 6 (.inr (.inl (1, [.ref 7, .int i1_1, .int (i1_2 + 1)])))) N (.inr (.inl (7, [.int 0, .int 0, .null, .int 0, .int 0])))) 7 = .inl (1, (48, .inl f3)) := (va_ne (by omega)).trans g104
                have g108 : (va_up (va_up G 6 (.inr (.inl (1, [.ref 7, .int i1_1, .int (i1_2 + 1)])))) N (.inr (.inl (7, [.int 0, .int 0, .null, .int 0, .int 0])))) 6 = .inr (.inl (1, [.ref 7, .int i1_1, .int (i1_2 + 1)])) := (va_ne (by omega)).trans g105
                have g109 : (va_up (va_up G 6 (.inr (.inl (1, [.ref 7, .int i1_1, .int (i1_2 + 1)])))) N (.inr (.inl (7, [.int 0, .int 0, .null, .int 0, .int 0])))) N = .inr (.inl (7, [.int 0, .int 0, .null, .int 0, .int 0])) := up_eq
                refine w_mv (pc1 := 75) (st1 := [.ref N, .ref N]) rfl rfl rfl ?_
                refine w_mv (pc1 := 76) (st1 := [.int 2, .ref N, .ref N]) rfl rfl rfl ?_
                refine w_mv (pc1 := 77) (st1 := [.int (f3 i1_2.toNatClampNeg), .int 2, .ref N, .ref N]) rfl rfl rfl ?_
                refine w_call (M' := sM_29) (vals := [.ref N, .int 2, .int (f3 i1_2.toNatClampNeg)]) (rest := [.ref N]) (lv' := [(0, .ref N), (1, .int 2), (2, .int (f3 i1_2.toNatClampNeg))]) rfl rfl rfl rfl rfl rfl rfl rfl rfl rfl ?_
                refine w_mv (pc1 := 1) (st1 := [.ref N]) rfl rfl rfl ?_
                refine w_obj (pc1 := 4) (st1 := []) rfl rfl rfl ⟨by omega, Nat.le_of_ble_eq_true rfl⟩ rfl ?_
                refine w_mv (pc1 := 5) (st1 := [.ref N]) rfl rfl rfl ?_
                refine w_mv (pc1 := 6) (st1 := [.int 2, .ref N]) rfl rfl rfl ?_
                refine cw_pf (c1 := .inr (.inl (7, [.int 2, .int 0, .null, .int 0, .int 0]))) (pc1 := 9) rfl (by omega) (by omega) g109 rfl rfl rfl rfl ?_
                have g110 : (va_up (va_up (va_up G 6 (.inr (.inl (1, [.ref 7, .int i1_1, .int (i1_2 + 1)])))) N (.inr (.inl (7, [.int 0, .int 0, .null, .int 0, .int 0])))) N (.inr (.inl (7, [.int 2, .int 0, .null, .int 0, .int 0])))) 7 = .inl (1, (48, .inl f3)) := (va_ne (ne_ao g107 g109)).trans g107
                have g111 : (va_up (va_up (va_up G 6 (.inr (.inl (1, [.ref 7, .int i1_1, .int (i1_2 + 1)])))) N (.inr (.inl (7, [.int 0, .int 0, .null, .int 0, .int 0])))) N (.inr (.inl (7, [.int 2, .int 0, .null, .int 0, .int 0])))) 6 = .inr (.inl (1, [.ref 7, .int i1_1, .int (i1_2 + 1)])) := (va_ne (ne_ob g108 g109 (by decide))).trans g108
                have g112 : (va_up (va_up (va_up G 6 (.inr (.inl (1, [.ref 7, .int i1_1, .int (i1_2 + 1)])))) N (.inr (.inl (7, [.int 0, .int 0, .null, .int 0, .int 0])))) N (.inr (.inl (7, [.int 2, .int 0, .null, .int 0, .int 0])))) N = .inr (.inl (7, [.int 2, .int 0, .null, .int 0, .int 0])) := up_eq
                refine w_mv (pc1 := 10) (st1 := [.ref N]) rfl rfl rfl ?_
                refine w_mv (pc1 := 11) (st1 := [.int (f3 i1_2.toNatClampNeg), .ref N]) rfl rfl rfl ?_
                refine cw_pf (c1 := .inr (.inl (7, [.int 2, .int (f3 i1_2.toNatClampNeg), .null, .int 0, .int 0]))) (pc1 := 14) rfl (by omega) (by omega) g112 rfl rfl rfl rfl ?_
                rw [va_uu]
                have g113 : (va_up (va_up (va_up G 6 (.inr (.inl (1, [.ref 7, .int i1_1, .int (i1_2 + 1)])))) N (.inr (.inl (7, [.int 0, .int 0, .null, .int 0, .int 0])))) N (.inr (.inl (7, [.int 2, .int (f3 i1_2.toNatClampNeg), .null, .int 0, .int 0])))) 7 = .inl (1, (48, .inl f3)) := (va_ne (ne_ao g110 g112)).trans ((va_ne (ne_ao g110 g112)).symm.trans g110)
                have g114 : (va_up (va_up (va_up G 6 (.inr (.inl (1, [.ref 7, .int i1_1, .int (i1_2 + 1)])))) N (.inr (.inl (7, [.int 0, .int 0, .null, .int 0, .int 0])))) N (.inr (.inl (7, [.int 2, .int (f3 i1_2.toNatClampNeg), .null, .int 0, .int 0])))) 6 = .inr (.inl (1, [.ref 7, .int i1_1, .int (i1_2 + 1)])) := (va_ne (ne_ob g111 g112 (by decide))).trans ((va_ne (ne_ob g111 g112 (by decide))).symm.trans g111)
                have g115 : (va_up (va_up (va_up G 6 (.inr (.inl (1, [.ref 7, .int i1_1, .int (i1_2 + 1)])))) N (.inr (.inl (7, [.int 0, .int 0, .null, .int 0, .int 0])))) N (.inr (.inl (7, [.int 2, .int (f3 i1_2.toNatClampNeg), .null, .int 0, .int 0])))) N = .inr (.inl (7, [.int 2, .int (f3 i1_2.toNatClampNeg), .null, .int 0, .int 0])) := up_eq
                refine w_mv (pc1 := 15) (st1 := [.ref N]) rfl rfl rfl ?_
                refine w_mv (pc1 := 16) (st1 := [.int 2, .ref N]) rfl rfl rfl ?_
                refine w_mv (pc1 := 17) (st1 := [.int 2, .int 2, .ref N]) rfl rfl rfl ?_
                refine w_mv (pc1 := 20) (st1 := [.ref N]) rfl rfl rfl ?_
                refine w_mv (pc1 := 21) (st1 := [.int 3, .ref N]) rfl rfl rfl ?_
                refine w_mv (pc1 := 25) (st1 := [.int 3, .ref N]) rfl rfl rfl ?_
                refine cw_newq (n := 3) (pc1 := 28) rfl rfl (by decide) (by decide) (by decide) ?_
                have g116 : (va_up (va_up (va_up (va_up G 6 (.inr (.inl (1, [.ref 7, .int i1_1, .int (i1_2 + 1)])))) N (.inr (.inl (7, [.int 0, .int 0, .null, .int 0, .int 0])))) N (.inr (.inl (7, [.int 2, .int (f3 i1_2.toNatClampNeg), .null, .int 0, .int 0])))) (N + 1) (.inl (8, (3, .inr (.inr (.inr (.inr (fun _ => none)))))))) 7 = .inl (1, (48, .inl f3)) := (va_ne (by omega)).trans g113
                have g117 : (va_up (va_up (va_up (va_up G 6 (.inr (.inl (1, [.ref 7, .int i1_1, .int (i1_2 + 1)])))) N (.inr (.inl (7, [.int 0, .int 0, .null, .int 0, .int 0])))) N (.inr (.inl (7, [.int 2, .int (f3 i1_2.toNatClampNeg), .null, .int 0, .int 0])))) (N + 1) (.inl (8, (3, .inr (.inr (.inr (.inr (fun _ => none)))))))) 6 = .inr (.inl (1, [.ref 7, .int i1_1, .int (i1_2 + 1)])) := (va_ne (by omega)).trans g114
                have g118 : (va_up (va_up (va_up (va_up G 6 (.inr (.inl (1, [.ref 7, .int i1_1, .int (i1_2 + 1)])))) N (.inr (.inl (7, [.int 0, .int 0, .null, .int 0, .int 0])))) N (.inr (.inl (7, [.int 2, .int (f3 i1_2.toNatClampNeg), .null, .int 0, .int 0])))) (N + 1) (.inl (8, (3, .inr (.inr (.inr (.inr (fun _ => none)))))))) N = .inr (.inl (7, [.int 2, .int (f3 i1_2.toNatClampNeg), .null, .int 0, .int 0])) := (va_ne (by omega)).trans g115
                have g119 : (va_up (va_up (va_up (va_up G 6 (.inr (.inl (1, [.ref 7, .int i1_1, .int (i1_2 + 1)])))) N (.inr (.inl (7, [.int 0, .int 0, .null, .int 0, .int 0])))) N (.inr (.inl (7, [.int 2, .int (f3 i1_2.toNatClampNeg), .null, .int 0, .int 0])))) (N + 1) (.inl (8, (3, .inr (.inr (.inr (.inr (fun _ => none)))))))) (N + 1) = .inl (8, (3, .inr (.inr (.inr (.inr (fun _ => none)))))) := up_eq
                refine cw_pf (c1 := .inr (.inl (7, [.int 2, .int (f3 i1_2.toNatClampNeg), .ref (N + 1), .int 0, .int 0]))) (pc1 := 31) rfl (by omega) (by omega) g118 rfl rfl rfl rfl ?_
                have g120 : (va_up (va_up (va_up (va_up (va_up G 6 (.inr (.inl (1, [.ref 7, .int i1_1, .int (i1_2 + 1)])))) N (.inr (.inl (7, [.int 0, .int 0, .null, .int 0, .int 0])))) N (.inr (.inl (7, [.int 2, .int (f3 i1_2.toNatClampNeg), .null, .int 0, .int 0])))) (N + 1) (.inl (8, (3, .inr (.inr (.inr (.inr (fun _ => none)))))))) N (.inr (.inl (7, [.int 2, .int (f3 i1_2.toNatClampNeg), .ref (N + 1), .int 0, .int 0])))) 7 = .inl (1, (48, .inl f3)) := (va_ne (ne_ao g116 g118)).trans g116
                have g121 : (va_up (va_up (va_up (va_up (va_up G 6 (.inr (.inl (1, [.ref 7, .int i1_1, .int (i1_2 + 1)])))) N (.inr (.inl (7, [.int 0, .int 0, .null, .int 0, .int 0])))) N (.inr (.inl (7, [.int 2, .int (f3 i1_2.toNatClampNeg), .null, .int 0, .int 0])))) (N + 1) (.inl (8, (3, .inr (.inr (.inr (.inr (fun _ => none)))))))) N (.inr (.inl (7, [.int 2, .int (f3 i1_2.toNatClampNeg), .ref (N + 1), .int 0, .int 0])))) 6 = .inr (.inl (1, [.ref 7, .int i1_1, .int (i1_2 + 1)])) := (va_ne (ne_ob g117 g118 (by decide))).trans g117
                have g122 : (va_up (va_up (va_up (va_up (va_up G 6 (.inr (.inl (1, [.ref 7, .int i1_1, .int (i1_2 + 1)])))) N (.inr (.inl (7, [.int 0, .int 0, .null, .int 0, .int 0])))) N (.inr (.inl (7, [.int 2, .int (f3 i1_2.toNatClampNeg), .null, .int 0, .int 0])))) (N + 1) (.inl (8, (3, .inr (.inr (.inr (.inr (fun _ => none)))))))) N (.inr (.inl (7, [.int 2, .int (f3 i1_2.toNatClampNeg), .ref (N + 1), .int 0, .int 0])))) (N + 1) = .inl (8, (3, .inr (.inr (.inr (.inr (fun _ => none)))))) := (va_ne (ne_ao g119 g118)).trans g119
                have g123 : (va_up (va_up (va_up (va_up (va_up G 6 (.inr (.inl (1, [.ref 7, .int i1_1, .int (i1_2 + 1)])))) N (.inr (.inl (7, [.int 0, .int 0, .null, .int 0, .int 0])))) N (.inr (.inl (7, [.int 2, .int (f3 i1_2.toNatClampNeg), .null, .int 0, .int 0])))) (N + 1) (.inl (8, (3, .inr (.inr (.inr (.inr (fun _ => none)))))))) N (.inr (.inl (7, [.int 2, .int (f3 i1_2.toNatClampNeg), .ref (N + 1), .int 0, .int 0])))) N = .inr (.inl (7, [.int 2, .int (f3 i1_2.toNatClampNeg), .ref (N + 1), .int 0, .int 0])) := up_eq
                refine w_mv (pc1 := 32) (st1 := [.ref N]) rfl rfl rfl ?_
                refine w_mv (pc1 := 33) (st1 := [.int 0, .ref N]) rfl rfl rfl ?_
                refine cw_pf (c1 := .inr (.inl (7, [.int 2, .int (f3 i1_2.toNatClampNeg), .ref (N + 1), .int 0, .int 0]))) (pc1 := 36) rfl (by omega) (by omega) g123 rfl rfl rfl rfl ?_
                rw [va_uu]
                have g124 : (va_up (va_up (va_up (va_up (va_up G 6 (.inr (.inl (1, [.ref 7, .int i1_1, .int (i1_2 + 1)])))) N (.inr (.inl (7, [.int 0, .int 0, .null, .int 0, .int 0])))) N (.inr (.inl (7, [.int 2, .int (f3 i1_2.toNatClampNeg), .null, .int 0, .int 0])))) (N + 1) (.inl (8, (3, .inr (.inr (.inr (.inr (fun _ => none)))))))) N (.inr (.inl (7, [.int 2, .int (f3 i1_2.toNatClampNeg), .ref (N + 1), .int 0, .int 0])))) 7 = .inl (1, (48, .inl f3)) := (va_ne (ne_ao g120 g123)).trans ((va_ne (ne_ao g120 g123)).symm.trans g120)
                have g125 : (va_up (va_up (va_up (va_up (va_up G 6 (.inr (.inl (1, [.ref 7, .int i1_1, .int (i1_2 + 1)])))) N (.inr (.inl (7, [.int 0, .int 0, .null, .int 0, .int 0])))) N (.inr (.inl (7, [.int 2, .int (f3 i1_2.toNatClampNeg), .null, .int 0, .int 0])))) (N + 1) (.inl (8, (3, .inr (.inr (.inr (.inr (fun _ => none)))))))) N (.inr (.inl (7, [.int 2, .int (f3 i1_2.toNatClampNeg), .ref (N + 1), .int 0, .int 0])))) 6 = .inr (.inl (1, [.ref 7, .int i1_1, .int (i1_2 + 1)])) := (va_ne (ne_ob g121 g123 (by decide))).trans ((va_ne (ne_ob g121 g123 (by decide))).symm.trans g121)
                have g126 : (va_up (va_up (va_up (va_up (va_up G 6 (.inr (.inl (1, [.ref 7, .int i1_1, .int (i1_2 + 1)])))) N (.inr (.inl (7, [.int 0, .int 0, .null, .int 0, .int 0])))) N (.inr (.inl (7, [.int 2, .int (f3 i1_2.toNatClampNeg), .null, .int 0, .int 0])))) (N + 1) (.inl (8, (3, .inr (.inr (.inr (.inr (fun _ => none)))))))) N (.inr (.inl (7, [.int 2, .int (f3 i1_2.toNatClampNeg), .ref (N + 1), .int 0, .int 0])))) (N + 1) = .inl (8, (3, .inr (.inr (.inr (.inr (fun _ => none)))))) := (va_ne (ne_ao g122 g123)).trans ((va_ne (ne_ao g122 g123)).symm.trans g122)
                have g127 : (va_up (va_up (va_up (va_up (va_up G 6 (.inr (.inl (1, [.ref 7, .int i1_1, .int (i1_2 + 1)])))) N (.inr (.inl (7, [.int 0, .int 0, .null, .int 0, .int 0])))) N (.inr (.inl (7, [.int 2, .int (f3 i1_2.toNatClampNeg), .null, .int 0, .int 0])))) (N + 1) (.inl (8, (3, .inr (.inr (.inr (.inr (fun _ => none)))))))) N (.inr (.inl (7, [.int 2, .int (f3 i1_2.toNatClampNeg), .ref (N + 1), .int 0, .int 0])))) N = .inr (.inl (7, [.int 2, .int (f3 i1_2.toNatClampNeg), .ref (N + 1), .int 0, .int 0])) := up_eq
                refine w_mv (pc1 := 37) (st1 := [.ref N]) rfl rfl rfl ?_
                refine w_mv (pc1 := 38) (st1 := [.int 2, .ref N]) rfl rfl rfl ?_
                refine w_mv (pc1 := 47) (st1 := [.ref N]) rfl rfl rfl ?_
                refine w_mv (pc1 := 48) (st1 := [.int 0, .ref N]) rfl rfl rfl ?_
                refine cw_pf (c1 := .inr (.inl (7, [.int 2, .int (f3 i1_2.toNatClampNeg), .ref (N + 1), .int 0, .int 0]))) (pc1 := 51) rfl (by omega) (by omega) g127 rfl rfl rfl rfl ?_
                rw [va_uu]
                have g128 : (va_up (va_up (va_up (va_up (va_up G 6 (.inr (.inl (1, [.ref 7, .int i1_1, .int (i1_2 + 1)])))) N (.inr (.inl (7, [.int 0, .int 0, .null, .int 0, .int 0])))) N (.inr (.inl (7, [.int 2, .int (f3 i1_2.toNatClampNeg), .null, .int 0, .int 0])))) (N + 1) (.inl (8, (3, .inr (.inr (.inr (.inr (fun _ => none)))))))) N (.inr (.inl (7, [.int 2, .int (f3 i1_2.toNatClampNeg), .ref (N + 1), .int 0, .int 0])))) 7 = .inl (1, (48, .inl f3)) := (va_ne (ne_ao g124 g127)).trans ((va_ne (ne_ao g124 g127)).symm.trans g124)
                have g129 : (va_up (va_up (va_up (va_up (va_up G 6 (.inr (.inl (1, [.ref 7, .int i1_1, .int (i1_2 + 1)])))) N (.inr (.inl (7, [.int 0, .int 0, .null, .int 0, .int 0])))) N (.inr (.inl (7, [.int 2, .int (f3 i1_2.toNatClampNeg), .null, .int 0, .int 0])))) (N + 1) (.inl (8, (3, .inr (.inr (.inr (.inr (fun _ => none)))))))) N (.inr (.inl (7, [.int 2, .int (f3 i1_2.toNatClampNeg), .ref (N + 1), .int 0, .int 0])))) 6 = .inr (.inl (1, [.ref 7, .int i1_1, .int (i1_2 + 1)])) := (va_ne (ne_ob g125 g127 (by decide))).trans ((va_ne (ne_ob g125 g127 (by decide))).symm.trans g125)
                have g130 : (va_up (va_up (va_up (va_up (va_up G 6 (.inr (.inl (1, [.ref 7, .int i1_1, .int (i1_2 + 1)])))) N (.inr (.inl (7, [.int 0, .int 0, .null, .int 0, .int 0])))) N (.inr (.inl (7, [.int 2, .int (f3 i1_2.toNatClampNeg), .null, .int 0, .int 0])))) (N + 1) (.inl (8, (3, .inr (.inr (.inr (.inr (fun _ => none)))))))) N (.inr (.inl (7, [.int 2, .int (f3 i1_2.toNatClampNeg), .ref (N + 1), .int 0, .int 0])))) (N + 1) = .inl (8, (3, .inr (.inr (.inr (.inr (fun _ => none)))))) := (va_ne (ne_ao g126 g127)).trans ((va_ne (ne_ao g126 g127)).symm.trans g126)
                have g131 : (va_up (va_up (va_up (va_up (va_up G 6 (.inr (.inl (1, [.ref 7, .int i1_1, .int (i1_2 + 1)])))) N (.inr (.inl (7, [.int 0, .int 0, .null, .int 0, .int 0])))) N (.inr (.inl (7, [.int 2, .int (f3 i1_2.toNatClampNeg), .null, .int 0, .int 0])))) (N + 1) (.inl (8, (3, .inr (.inr (.inr (.inr (fun _ => none)))))))) N (.inr (.inl (7, [.int 2, .int (f3 i1_2.toNatClampNeg), .ref (N + 1), .int 0, .int 0])))) N = .inr (.inl (7, [.int 2, .int (f3 i1_2.toNatClampNeg), .ref (N + 1), .int 0, .int 0])) := up_eq
                refine w_vret (pc1 := 80) rfl rfl rfl ?_
                refine w_mv (pc1 := 81) (lv1 := [(3, .ref N), (2, .int (f3 i1_2.toNatClampNeg)), (0, .ref 6), (1, .int p1)]) (st1 := []) rfl rfl rfl ?_
                refine w_wk (l1 := [(0, .ref 6), (1, .int p1), (3, .ref N)]) rfl ⟨rfl, rfl, rfl, trivial⟩ ?_
                refine hh d _ _ P (fun r N1 G1 kc1 ks1 q => ?_)
                exact c_acc (hP r N1 G1 _ _ q) (by omega) (by omega)
          ·
            replace hh := hh.2 (Int.not_lt.mp h101)
            refine w_igt_F (pc1 := 12) rfl (by decide) rfl (show (f3 i1_2.toNatClampNeg).toInt ≤ 57 from (Int.not_lt.mp h101)) ?_
            refine w_mv (pc1 := 13) (st1 := [.int 1]) rfl rfl rfl ?_
            refine w_mv (pc1 := 17) (st1 := [.int 1]) rfl rfl rfl ?_
            refine w_iret (pc1 := 44) rfl rfl rfl rfl ?_
            refine w_mv (pc1 := 47) (st1 := []) rfl rfl rfl ?_
            refine w_mv (pc1 := 48) (st1 := [.ref 6]) rfl rfl rfl ?_
            refine w_call (M' := sM_31) (vals := [.ref 6]) (rest := []) (lv' := [(0, .ref 6)]) rfl rfl rfl rfl rfl rfl (cH_rcv (by omega) (by omega) g1) rfl rfl rfl ?_
            refine hh _ _ _ _ (fun r132 N132 G132 kc132 ks132 hh => ?_)
            obtain ⟨o132, er132, hh⟩ := hh
            subst er132
            refine w_kr (pc1 := 51) rfl ?_
            refine sx_wp.stop (v := .inl (some (va_rf o132))) (hs1 := cH (N132) G132) (dc1 := 0) (ds1 := 0) rfl rfl (by cases o132 <;> rfl) ?_
            exact c_acc (hP _ _ _ _ _ hh) (by omega) (by omega)
      ·
        replace hh := hh.2 (Int.not_lt.mp h69)
        refine w_igt_F (pc1 := 17) rfl (by decide) rfl (show (f3 i1_2.toNatClampNeg).toInt ≤ 90 from (Int.not_lt.mp h69)) ?_
        refine w_mv (pc1 := 18) (st1 := [.ref 6]) rfl rfl rfl ?_
        refine w_mv (pc1 := 19) (st1 := [.ref 6, .ref 6]) rfl rfl rfl ?_
        refine cw_gf (v := .int i1_2) (pc1 := 22) rfl (by omega) (by omega) g1 rfl rfl ?_
        refine w_mv (pc1 := 23) (st1 := [.int 1, .int i1_2, .ref 6]) rfl rfl rfl ?_
        refine w_mv (pc1 := 24) (st1 := [.int (i1_2 + 1), .ref 6]) rfl rfl rfl ?_
        refine cw_pf (c1 := .inr (.inl (1, [.ref 7, .int i1_1, .int (i1_2 + 1)]))) (pc1 := 27) rfl (by omega) (by omega) g1 rfl rfl rfl rfl ?_
        have g133 : (va_up G 6 (.inr (.inl (1, [.ref 7, .int i1_1, .int (i1_2 + 1)])))) 7 = .inl (1, (48, .inl f3)) := (va_ne (ne_ao g3 g1)).trans g3
        have g134 : (va_up G 6 (.inr (.inl (1, [.ref 7, .int i1_1, .int (i1_2 + 1)])))) 6 = .inr (.inl (1, [.ref 7, .int i1_1, .int (i1_2 + 1)])) := up_eq
        obtain ⟨q135a, hh⟩ := hh
        refine cw_new (k := 5) (c1 := .inr (.inl (7, [.int 0, .int 0, .null, .int 0, .int 0]))) (pc1 := 30) rfl rfl rfl rfl ?_
        have g136 : (va_up (va_up G 6 (.inr (.inl (1, [.ref 7, .int i1_1, .int (i1_2 + 1)])))) N (.inr (.inl (7, [.int 0, .int 0, .null, .int 0, .int 0])))) 7 = .inl (1, (48, .inl f3)) := (va_ne (by omega)).trans g133
        have g137 : (va_up (va_up G 6 (.inr (.inl (1, [.ref 7, .int i1_1, .int (i1_2 + 1)])))) N (.inr (.inl (7, [.int 0, .int 0, .null, .int 0, .int 0])))) 6 = .inr (.inl (1, [.ref 7, .int i1_1, .int (i1_2 + 1)])) := (va_ne (by omega)).trans g134
        have g138 : (va_up (va_up G 6 (.inr (.inl (1, [.ref 7, .int i1_1, .int (i1_2 + 1)])))) N (.inr (.inl (7, [.int 0, .int 0, .null, .int 0, .int 0])))) N = .inr (.inl (7, [.int 0, .int 0, .null, .int 0, .int 0])) := up_eq
        refine w_mv (pc1 := 31) (st1 := [.ref N, .ref N]) rfl rfl rfl ?_
        refine w_mv (pc1 := 32) (st1 := [.int 0, .ref N, .ref N]) rfl rfl rfl ?_
        refine w_mv (pc1 := 33) (st1 := [.int (f3 i1_2.toNatClampNeg), .int 0, .ref N, .ref N]) rfl rfl rfl ?_
        refine w_mv (pc1 := 35) (st1 := [.int 65, .int (f3 i1_2.toNatClampNeg), .int 0, .ref N, .ref N]) rfl rfl rfl ?_
        refine w_mv (pc1 := 36) (st1 := [.int (f3 i1_2.toNatClampNeg - 65), .int 0, .ref N, .ref N]) rfl rfl rfl ?_
        refine w_call (M' := sM_29) (vals := [.ref N, .int 0, .int (f3 i1_2.toNatClampNeg - 65)]) (rest := [.ref N]) (lv' := [(0, .ref N), (1, .int 0), (2, .int (f3 i1_2.toNatClampNeg - 65))]) rfl rfl rfl rfl rfl rfl rfl rfl rfl rfl ?_
        refine w_mv (pc1 := 1) (st1 := [.ref N]) rfl rfl rfl ?_
        refine w_obj (pc1 := 4) (st1 := []) rfl rfl rfl ⟨by omega, Nat.le_of_ble_eq_true rfl⟩ rfl ?_
        refine w_mv (pc1 := 5) (st1 := [.ref N]) rfl rfl rfl ?_
        refine w_mv (pc1 := 6) (st1 := [.int 0, .ref N]) rfl rfl rfl ?_
        refine cw_pf (c1 := .inr (.inl (7, [.int 0, .int 0, .null, .int 0, .int 0]))) (pc1 := 9) rfl (by omega) (by omega) g138 rfl rfl rfl rfl ?_
        have g139 : (va_up (va_up (va_up G 6 (.inr (.inl (1, [.ref 7, .int i1_1, .int (i1_2 + 1)])))) N (.inr (.inl (7, [.int 0, .int 0, .null, .int 0, .int 0])))) N (.inr (.inl (7, [.int 0, .int 0, .null, .int 0, .int 0])))) 7 = .inl (1, (48, .inl f3)) := (va_ne (ne_ao g136 g138)).trans g136
        have g140 : (va_up (va_up (va_up G 6 (.inr (.inl (1, [.ref 7, .int i1_1, .int (i1_2 + 1)])))) N (.inr (.inl (7, [.int 0, .int 0, .null, .int 0, .int 0])))) N (.inr (.inl (7, [.int 0, .int 0, .null, .int 0, .int 0])))) 6 = .inr (.inl (1, [.ref 7, .int i1_1, .int (i1_2 + 1)])) := (va_ne (ne_ob g137 g138 (by decide))).trans g137
        have g141 : (va_up (va_up (va_up G 6 (.inr (.inl (1, [.ref 7, .int i1_1, .int (i1_2 + 1)])))) N (.inr (.inl (7, [.int 0, .int 0, .null, .int 0, .int 0])))) N (.inr (.inl (7, [.int 0, .int 0, .null, .int 0, .int 0])))) N = .inr (.inl (7, [.int 0, .int 0, .null, .int 0, .int 0])) := up_eq
        refine w_mv (pc1 := 10) (st1 := [.ref N]) rfl rfl rfl ?_
        refine w_mv (pc1 := 11) (st1 := [.int (f3 i1_2.toNatClampNeg - 65), .ref N]) rfl rfl rfl ?_
        refine cw_pf (c1 := .inr (.inl (7, [.int 0, .int (f3 i1_2.toNatClampNeg - 65), .null, .int 0, .int 0]))) (pc1 := 14) rfl (by omega) (by omega) g141 rfl rfl rfl rfl ?_
        rw [va_uu]
        have g142 : (va_up (va_up (va_up G 6 (.inr (.inl (1, [.ref 7, .int i1_1, .int (i1_2 + 1)])))) N (.inr (.inl (7, [.int 0, .int 0, .null, .int 0, .int 0])))) N (.inr (.inl (7, [.int 0, .int (f3 i1_2.toNatClampNeg - 65), .null, .int 0, .int 0])))) 7 = .inl (1, (48, .inl f3)) := (va_ne (ne_ao g139 g141)).trans ((va_ne (ne_ao g139 g141)).symm.trans g139)
        have g143 : (va_up (va_up (va_up G 6 (.inr (.inl (1, [.ref 7, .int i1_1, .int (i1_2 + 1)])))) N (.inr (.inl (7, [.int 0, .int 0, .null, .int 0, .int 0])))) N (.inr (.inl (7, [.int 0, .int (f3 i1_2.toNatClampNeg - 65), .null, .int 0, .int 0])))) 6 = .inr (.inl (1, [.ref 7, .int i1_1, .int (i1_2 + 1)])) := (va_ne (ne_ob g140 g141 (by decide))).trans ((va_ne (ne_ob g140 g141 (by decide))).symm.trans g140)
        have g144 : (va_up (va_up (va_up G 6 (.inr (.inl (1, [.ref 7, .int i1_1, .int (i1_2 + 1)])))) N (.inr (.inl (7, [.int 0, .int 0, .null, .int 0, .int 0])))) N (.inr (.inl (7, [.int 0, .int (f3 i1_2.toNatClampNeg - 65), .null, .int 0, .int 0])))) N = .inr (.inl (7, [.int 0, .int (f3 i1_2.toNatClampNeg - 65), .null, .int 0, .int 0])) := up_eq
        refine w_mv (pc1 := 15) (st1 := [.ref N]) rfl rfl rfl ?_
        refine w_mv (pc1 := 16) (st1 := [.int 0, .ref N]) rfl rfl rfl ?_
        refine w_mv (pc1 := 17) (st1 := [.int 2, .int 0, .ref N]) rfl rfl rfl ?_
        refine w_mv (pc1 := 24) (st1 := [.ref N]) rfl rfl rfl ?_
        refine w_mv (pc1 := 25) (st1 := [.int 0, .ref N]) rfl rfl rfl ?_
        refine cw_newq (n := 0) (pc1 := 28) rfl rfl (by decide) (by decide) (by decide) ?_
        have g145 : (va_up (va_up (va_up (va_up G 6 (.inr (.inl (1, [.ref 7, .int i1_1, .int (i1_2 + 1)])))) N (.inr (.inl (7, [.int 0, .int 0, .null, .int 0, .int 0])))) N (.inr (.inl (7, [.int 0, .int (f3 i1_2.toNatClampNeg - 65), .null, .int 0, .int 0])))) (N + 1) (.inl (8, (0, .inr (.inr (.inr (.inr (fun _ => none)))))))) 7 = .inl (1, (48, .inl f3)) := (va_ne (by omega)).trans g142
        have g146 : (va_up (va_up (va_up (va_up G 6 (.inr (.inl (1, [.ref 7, .int i1_1, .int (i1_2 + 1)])))) N (.inr (.inl (7, [.int 0, .int 0, .null, .int 0, .int 0])))) N (.inr (.inl (7, [.int 0, .int (f3 i1_2.toNatClampNeg - 65), .null, .int 0, .int 0])))) (N + 1) (.inl (8, (0, .inr (.inr (.inr (.inr (fun _ => none)))))))) 6 = .inr (.inl (1, [.ref 7, .int i1_1, .int (i1_2 + 1)])) := (va_ne (by omega)).trans g143
        have g147 : (va_up (va_up (va_up (va_up G 6 (.inr (.inl (1, [.ref 7, .int i1_1, .int (i1_2 + 1)])))) N (.inr (.inl (7, [.int 0, .int 0, .null, .int 0, .int 0])))) N (.inr (.inl (7, [.int 0, .int (f3 i1_2.toNatClampNeg - 65), .null, .int 0, .int 0])))) (N + 1) (.inl (8, (0, .inr (.inr (.inr (.inr (fun _ => none)))))))) N = .inr (.inl (7, [.int 0, .int (f3 i1_2.toNatClampNeg - 65), .null, .int 0, .int 0])) := (va_ne (by omega)).trans g144
        have g148 : (va_up (va_up (va_up (va_up G 6 (.inr (.inl (1, [.ref 7, .int i1_1, .int (i1_2 + 1)])))) N (.inr (.inl (7, [.int 0, .int 0, .null, .int 0, .int 0])))) N (.inr (.inl (7, [.int 0, .int (f3 i1_2.toNatClampNeg - 65), .null, .int 0, .int 0])))) (N + 1) (.inl (8, (0, .inr (.inr (.inr (.inr (fun _ => none)))))))) (N + 1) = .inl (8, (0, .inr (.inr (.inr (.inr (fun _ => none)))))) := up_eq
        refine cw_pf (c1 := .inr (.inl (7, [.int 0, .int (f3 i1_2.toNatClampNeg - 65), .ref (N + 1), .int 0, .int 0]))) (pc1 := 31) rfl (by omega) (by omega) g147 rfl rfl rfl rfl ?_
        have g149 : (va_up (va_up (va_up (va_up (va_up G 6 (.inr (.inl (1, [.ref 7, .int i1_1, .int (i1_2 + 1)])))) N (.inr (.inl (7, [.int 0, .int 0, .null, .int 0, .int 0])))) N (.inr (.inl (7, [.int 0, .int (f3 i1_2.toNatClampNeg - 65), .null, .int 0, .int 0])))) (N + 1) (.inl (8, (0, .inr (.inr (.inr (.inr (fun _ => none)))))))) N (.inr (.inl (7, [.int 0, .int (f3 i1_2.toNatClampNeg - 65), .ref (N + 1), .int 0, .int 0])))) 7 = .inl (1, (48, .inl f3)) := (va_ne (ne_ao g145 g147)).trans g145
        have g150 : (va_up (va_up (va_up (va_up (va_up G 6 (.inr (.inl (1, [.ref 7, .int i1_1, .int (i1_2 + 1)])))) N (.inr (.inl (7, [.int 0, .int 0, .null, .int 0, .int 0])))) N (.inr (.inl (7, [.int 0, .int (f3 i1_2.toNatClampNeg - 65), .null, .int 0, .int 0])))) (N + 1) (.inl (8, (0, .inr (.inr (.inr (.inr (fun _ => none)))))))) N (.inr (.inl (7, [.int 0, .int (f3 i1_2.toNatClampNeg - 65), .ref (N + 1), .int 0, .int 0])))) 6 = .inr (.inl (1, [.ref 7, .int i1_1, .int (i1_2 + 1)])) := (va_ne (ne_ob g146 g147 (by decide))).trans g146
        have g151 : (va_up (va_up (va_up (va_up (va_up G 6 (.inr (.inl (1, [.ref 7, .int i1_1, .int (i1_2 + 1)])))) N (.inr (.inl (7, [.int 0, .int 0, .null, .int 0, .int 0])))) N (.inr (.inl (7, [.int 0, .int (f3 i1_2.toNatClampNeg - 65), .null, .int 0, .int 0])))) (N + 1) (.inl (8, (0, .inr (.inr (.inr (.inr (fun _ => none)))))))) N (.inr (.inl (7, [.int 0, .int (f3 i1_2.toNatClampNeg - 65), .ref (N + 1), .int 0, .int 0])))) (N + 1) = .inl (8, (0, .inr (.inr (.inr (.inr (fun _ => none)))))) := (va_ne (ne_ao g148 g147)).trans g148
        have g152 : (va_up (va_up (va_up (va_up (va_up G 6 (.inr (.inl (1, [.ref 7, .int i1_1, .int (i1_2 + 1)])))) N (.inr (.inl (7, [.int 0, .int 0, .null, .int 0, .int 0])))) N (.inr (.inl (7, [.int 0, .int (f3 i1_2.toNatClampNeg - 65), .null, .int 0, .int 0])))) (N + 1) (.inl (8, (0, .inr (.inr (.inr (.inr (fun _ => none)))))))) N (.inr (.inl (7, [.int 0, .int (f3 i1_2.toNatClampNeg - 65), .ref (N + 1), .int 0, .int 0])))) N = .inr (.inl (7, [.int 0, .int (f3 i1_2.toNatClampNeg - 65), .ref (N + 1), .int 0, .int 0])) := up_eq
        refine w_mv (pc1 := 32) (st1 := [.ref N]) rfl rfl rfl ?_
        refine w_mv (pc1 := 33) (st1 := [.int 0, .ref N]) rfl rfl rfl ?_
        refine cw_pf (c1 := .inr (.inl (7, [.int 0, .int (f3 i1_2.toNatClampNeg - 65), .ref (N + 1), .int 0, .int 0]))) (pc1 := 36) rfl (by omega) (by omega) g152 rfl rfl rfl rfl ?_
        rw [va_uu]
        have g153 : (va_up (va_up (va_up (va_up (va_up G 6 (.inr (.inl (1, [.ref 7, .int i1_1, .int (i1_2 + 1)])))) N (.inr (.inl (7, [.int 0, .int 0, .null, .int 0, .int 0])))) N (.inr (.inl (7, [.int 0, .int (f3 i1_2.toNatClampNeg - 65), .null, .int 0, .int 0])))) (N + 1) (.inl (8, (0, .inr (.inr (.inr (.inr (fun _ => none)))))))) N (.inr (.inl (7, [.int 0, .int (f3 i1_2.toNatClampNeg - 65), .ref (N + 1), .int 0, .int 0])))) 7 = .inl (1, (48, .inl f3)) := (va_ne (ne_ao g149 g152)).trans ((va_ne (ne_ao g149 g152)).symm.trans g149)
        have g154 : (va_up (va_up (va_up (va_up (va_up G 6 (.inr (.inl (1, [.ref 7, .int i1_1, .int (i1_2 + 1)])))) N (.inr (.inl (7, [.int 0, .int 0, .null, .int 0, .int 0])))) N (.inr (.inl (7, [.int 0, .int (f3 i1_2.toNatClampNeg - 65), .null, .int 0, .int 0])))) (N + 1) (.inl (8, (0, .inr (.inr (.inr (.inr (fun _ => none)))))))) N (.inr (.inl (7, [.int 0, .int (f3 i1_2.toNatClampNeg - 65), .ref (N + 1), .int 0, .int 0])))) 6 = .inr (.inl (1, [.ref 7, .int i1_1, .int (i1_2 + 1)])) := (va_ne (ne_ob g150 g152 (by decide))).trans ((va_ne (ne_ob g150 g152 (by decide))).symm.trans g150)
        have g155 : (va_up (va_up (va_up (va_up (va_up G 6 (.inr (.inl (1, [.ref 7, .int i1_1, .int (i1_2 + 1)])))) N (.inr (.inl (7, [.int 0, .int 0, .null, .int 0, .int 0])))) N (.inr (.inl (7, [.int 0, .int (f3 i1_2.toNatClampNeg - 65), .null, .int 0, .int 0])))) (N + 1) (.inl (8, (0, .inr (.inr (.inr (.inr (fun _ => none)))))))) N (.inr (.inl (7, [.int 0, .int (f3 i1_2.toNatClampNeg - 65), .ref (N + 1), .int 0, .int 0])))) (N + 1) = .inl (8, (0, .inr (.inr (.inr (.inr (fun _ => none)))))) := (va_ne (ne_ao g151 g152)).trans ((va_ne (ne_ao g151 g152)).symm.trans g151)
        have g156 : (va_up (va_up (va_up (va_up (va_up G 6 (.inr (.inl (1, [.ref 7, .int i1_1, .int (i1_2 + 1)])))) N (.inr (.inl (7, [.int 0, .int 0, .null, .int 0, .int 0])))) N (.inr (.inl (7, [.int 0, .int (f3 i1_2.toNatClampNeg - 65), .null, .int 0, .int 0])))) (N + 1) (.inl (8, (0, .inr (.inr (.inr (.inr (fun _ => none)))))))) N (.inr (.inl (7, [.int 0, .int (f3 i1_2.toNatClampNeg - 65), .ref (N + 1), .int 0, .int 0])))) N = .inr (.inl (7, [.int 0, .int (f3 i1_2.toNatClampNeg - 65), .ref (N + 1), .int 0, .int 0])) := up_eq
        refine w_mv (pc1 := 37) (st1 := [.ref N]) rfl rfl rfl ?_
        refine w_mv (pc1 := 38) (st1 := [.int 0, .ref N]) rfl rfl rfl ?_
        refine w_mv (pc1 := 41) (st1 := [.ref N]) rfl rfl rfl ?_
        refine w_mv (pc1 := 42) (st1 := [.int 1, .ref N]) rfl rfl rfl ?_
        refine w_mv (pc1 := 43) (st1 := [.int (f3 i1_2.toNatClampNeg - 65), .int 1, .ref N]) rfl rfl rfl ?_
        refine w_mv (pc1 := 44) (st1 := [.int (c_shl 1 (f3 i1_2.toNatClampNeg - 65)), .ref N]) rfl rfl rfl ?_
        refine w_mv (pc1 := 48) (st1 := [.int (c_shl 1 (f3 i1_2.toNatClampNeg - 65)), .ref N]) rfl rfl rfl ?_
        refine cw_pf (c1 := .inr (.inl (7, [.int 0, .int (f3 i1_2.toNatClampNeg - 65), .ref (N + 1), .int 0, .int (c_shl 1 (f3 i1_2.toNatClampNeg - 65))]))) (pc1 := 51) rfl (by omega) (by omega) g156 rfl rfl rfl rfl ?_
        rw [va_uu]
        have g157 : (va_up (va_up (va_up (va_up (va_up G 6 (.inr (.inl (1, [.ref 7, .int i1_1, .int (i1_2 + 1)])))) N (.inr (.inl (7, [.int 0, .int 0, .null, .int 0, .int 0])))) N (.inr (.inl (7, [.int 0, .int (f3 i1_2.toNatClampNeg - 65), .null, .int 0, .int 0])))) (N + 1) (.inl (8, (0, .inr (.inr (.inr (.inr (fun _ => none)))))))) N (.inr (.inl (7, [.int 0, .int (f3 i1_2.toNatClampNeg - 65), .ref (N + 1), .int 0, .int (c_shl 1 (f3 i1_2.toNatClampNeg - 65))])))) 7 = .inl (1, (48, .inl f3)) := (va_ne (ne_ao g153 g156)).trans ((va_ne (ne_ao g153 g156)).symm.trans g153)
        have g158 : (va_up (va_up (va_up (va_up (va_up G 6 (.inr (.inl (1, [.ref 7, .int i1_1, .int (i1_2 + 1)])))) N (.inr (.inl (7, [.int 0, .int 0, .null, .int 0, .int 0])))) N (.inr (.inl (7, [.int 0, .int (f3 i1_2.toNatClampNeg - 65), .null, .int 0, .int 0])))) (N + 1) (.inl (8, (0, .inr (.inr (.inr (.inr (fun _ => none)))))))) N (.inr (.inl (7, [.int 0, .int (f3 i1_2.toNatClampNeg - 65), .ref (N + 1), .int 0, .int (c_shl 1 (f3 i1_2.toNatClampNeg - 65))])))) 6 = .inr (.inl (1, [.ref 7, .int i1_1, .int (i1_2 + 1)])) := (va_ne (ne_ob g154 g156 (by decide))).trans ((va_ne (ne_ob g154 g156 (by decide))).symm.trans g154)
        have g159 : (va_up (va_up (va_up (va_up (va_up G 6 (.inr (.inl (1, [.ref 7, .int i1_1, .int (i1_2 + 1)])))) N (.inr (.inl (7, [.int 0, .int 0, .null, .int 0, .int 0])))) N (.inr (.inl (7, [.int 0, .int (f3 i1_2.toNatClampNeg - 65), .null, .int 0, .int 0])))) (N + 1) (.inl (8, (0, .inr (.inr (.inr (.inr (fun _ => none)))))))) N (.inr (.inl (7, [.int 0, .int (f3 i1_2.toNatClampNeg - 65), .ref (N + 1), .int 0, .int (c_shl 1 (f3 i1_2.toNatClampNeg - 65))])))) (N + 1) = .inl (8, (0, .inr (.inr (.inr (.inr (fun _ => none)))))) := (va_ne (ne_ao g155 g156)).trans ((va_ne (ne_ao g155 g156)).symm.trans g155)
        have g160 : (va_up (va_up (va_up (va_up (va_up G 6 (.inr (.inl (1, [.ref 7, .int i1_1, .int (i1_2 + 1)])))) N (.inr (.inl (7, [.int 0, .int 0, .null, .int 0, .int 0])))) N (.inr (.inl (7, [.int 0, .int (f3 i1_2.toNatClampNeg - 65), .null, .int 0, .int 0])))) (N + 1) (.inl (8, (0, .inr (.inr (.inr (.inr (fun _ => none)))))))) N (.inr (.inl (7, [.int 0, .int (f3 i1_2.toNatClampNeg - 65), .ref (N + 1), .int 0, .int (c_shl 1 (f3 i1_2.toNatClampNeg - 65))])))) N = .inr (.inl (7, [.int 0, .int (f3 i1_2.toNatClampNeg - 65), .ref (N + 1), .int 0, .int (c_shl 1 (f3 i1_2.toNatClampNeg - 65))])) := up_eq
        refine w_vret (pc1 := 39) rfl rfl rfl ?_
        refine sx_wp.stop rfl rfl rfl ?_
        exact c_acc (hP _ _ _ _ _ hh) (by omega) (by omega)
set_option maxRecDepth 20000 in
set_option maxHeartbeats 4000000 in
theorem k_28_81 {h : Nat} {p1 : Int32} {y3 : Nat} {N : Nat} {G : Nat → sx_C} {K : Option Value ⊕ Nat → Nat → (Nat → sx_C) → Nat → Nat → Prop} (hh : ((5 ≤ p1.toInt → K (.inl (some (.ref y3))) (N) G (0) (0)) ∧ (p1.toInt < 5 → 6 < N ∧ ∃ (i2_1 : Int32) (i2_2 : Int32), G 6 = .inr (.inl (1, [.ref 7, .int i2_1, .int i2_2])) ∧ ((i2_1.toInt ≤ i2_2.toInt → K (.inl (some (.ref y3))) (N) G (0) (0)) ∧ (i2_2.toInt < i2_1.toInt → 7 < N ∧ ∃ (f4 : Nat → Int32), G 7 = .inl (1, (48, .inl f4)) ∧ 0 ≤ i2_2.toInt ∧ i2_2.toInt < (48 : Nat) ∧ (((f4 i2_2.toNatClampNeg).toInt = 40 → cT (h) sM_33 0 [(0, .ref 6), (1, .ref y3), (2, .int (p1 + 1))] [] (N) (va_up G 6 (.inr (.inl (1, [.ref 7, .int i2_1, .int (i2_2 + 1)])))) (fun r9 N9 G9 kc9 ks9 => ∃ v9 : Int32, r9 = .inl (some (.int v9)) ∧ ((v9.toInt ≠ 0 → K (.inl (some (.ref y3))) (N9) G9 (kc9) (ks9)) ∧ (v9.toInt = 0 → K (.inl (some (.null))) (N9) G9 (kc9) (ks9))))) ∧ ((f4 i2_2.toNatClampNeg).toInt ≠ 40 → K (.inl (some (.ref y3))) (N) G (0) (0)))))))) : cT (h + 3) sM_28 81 [(0, .ref 6), (1, .int p1), (3, .ref y3)] [] N G K := by
  intro d dc ds P hP
  show s_wp (d + h + 3) _ _ _ _ _ _ _ _
  refine w_mv (pc1 := 82) (st1 := [.int p1]) rfl rfl rfl ?_
  refine w_mv (pc1 := 83) (st1 := [.int 5, .int p1]) rfl rfl rfl ?_
  by_cases h1 : 5 ≤ p1.toInt
  ·
    replace hh := hh.1 h1
    refine w_ige_T (pc1 := 108) rfl rfl (show 5 ≤ p1.toInt from h1) ?_
    refine w_mv (pc1 := 109) (st1 := [.ref y3]) rfl rfl rfl ?_
    refine sx_wp.stop rfl rfl rfl ?_
    exact c_acc (hP _ _ _ _ _ hh) (by omega) (by omega)
  ·
    replace hh := hh.2 (Int.not_le.mp h1)
    refine w_ige_F (pc1 := 86) rfl (by decide) rfl (show p1.toInt < 5 from (Int.not_le.mp h1)) ?_
    refine w_mv (pc1 := 87) (st1 := [.ref 6]) rfl rfl rfl ?_
    refine w_mv (pc1 := 89) (st1 := [.int 40, .ref 6]) rfl rfl rfl ?_
    obtain ⟨b2b, i2_1, i2_2, g2, hh⟩ := hh
    refine w_call (M' := sM_32) (vals := [.ref 6, .int 40]) (rest := []) (lv' := [(0, .ref 6), (1, .int 40)]) rfl rfl rfl rfl rfl rfl (cH_rcv (by omega) (by omega) g2) rfl rfl rfl ?_
    refine w_mv (pc1 := 1) (st1 := [.ref 6]) rfl rfl rfl ?_
    refine cw_gf (v := .int i2_2) (pc1 := 4) rfl (by omega) (by omega) g2 rfl rfl ?_
    refine w_mv (pc1 := 5) (st1 := [.ref 6, .int i2_2]) rfl rfl rfl ?_
    refine cw_gf (v := .int i2_1) (pc1 := 8) rfl (by omega) (by omega) g2 rfl rfl ?_
    by_cases h3 : i2_1.toInt ≤ i2_2.toInt
    ·
      replace hh := hh.1 h3
      refine w_ige_T (pc1 := 24) rfl rfl (show i2_1.toInt ≤ i2_2.toInt from h3) ?_
      refine w_mv (pc1 := 25) (st1 := [.int 0]) rfl rfl rfl ?_
      refine w_iret (pc1 := 92) rfl rfl rfl rfl ?_
      refine w_mv (pc1 := 108) (st1 := []) rfl rfl rfl ?_
      refine w_mv (pc1 := 109) (st1 := [.ref y3]) rfl rfl rfl ?_
      refine sx_wp.stop rfl rfl rfl ?_
      exact c_acc (hP _ _ _ _ _ hh) (by omega) (by omega)
    ·
      replace hh := hh.2 (Int.not_le.mp h3)
      refine w_ige_F (pc1 := 11) rfl (by decide) rfl (show i2_2.toInt < i2_1.toInt from (Int.not_le.mp h3)) ?_
      refine w_mv (pc1 := 12) (st1 := [.ref 6]) rfl rfl rfl ?_
      refine cw_gf (v := .ref 7) (pc1 := 15) rfl (by omega) (by omega) g2 rfl rfl ?_
      refine w_mv (pc1 := 16) (st1 := [.ref 6, .ref 7]) rfl rfl rfl ?_
      refine cw_gf (v := .int i2_2) (pc1 := 19) rfl (by omega) (by omega) g2 rfl rfl ?_
      obtain ⟨b4b, f4, g4, hh⟩ := hh
      obtain ⟨q5a, q5b, hh⟩ := hh
      refine cw_bld (pc1 := 20) rfl (by omega) g4 q5a q5b rfl ?_
      refine w_mv (pc1 := 21) (st1 := [.int 40, .int (f4 i2_2.toNatClampNeg)]) rfl rfl rfl ?_
      by_cases h6 : (f4 i2_2.toNatClampNeg).toInt = 40
      ·
        replace hh := hh.1 h6
        refine w_ieq_T (pc1 := 26) rfl rfl (show (f4 i2_2.toNatClampNeg).toInt = 40 from h6) ?_
        refine w_mv (pc1 := 27) (st1 := [.ref 6]) rfl rfl rfl ?_
        refine w_mv (pc1 := 28) (st1 := [.ref 6, .ref 6]) rfl rfl rfl ?_
        refine cw_gf (v := .int i2_2) (pc1 := 31) rfl (by omega) (by omega) g2 rfl rfl ?_
        refine w_mv (pc1 := 32) (st1 := [.int 1, .int i2_2, .ref 6]) rfl rfl rfl ?_
        refine w_mv (pc1 := 33) (st1 := [.int (i2_2 + 1), .ref 6]) rfl rfl rfl ?_
        refine cw_pf (c1 := .inr (.inl (1, [.ref 7, .int i2_1, .int (i2_2 + 1)]))) (pc1 := 36) rfl (by omega) (by omega) g2 rfl rfl rfl rfl ?_
        have g7 : (va_up G 6 (.inr (.inl (1, [.ref 7, .int i2_1, .int (i2_2 + 1)])))) 7 = .inl (1, (48, .inl f4)) := (va_ne (ne_ao g4 g2)).trans g4
        have g8 : (va_up G 6 (.inr (.inl (1, [.ref 7, .int i2_1, .int (i2_2 + 1)])))) 6 = .inr (.inl (1, [.ref 7, .int i2_1, .int (i2_2 + 1)])) := up_eq
        refine w_mv (pc1 := 37) (st1 := [.int 1]) rfl rfl rfl ?_
        refine w_iret (pc1 := 92) rfl rfl rfl rfl ?_
        refine w_mv (pc1 := 95) (st1 := []) rfl rfl rfl ?_
        refine w_mv (pc1 := 96) (st1 := [.ref 6]) rfl rfl rfl ?_
        refine w_mv (pc1 := 97) (st1 := [.ref y3, .ref 6]) rfl rfl rfl ?_
        refine w_mv (pc1 := 98) (st1 := [.int p1, .ref y3, .ref 6]) rfl rfl rfl ?_
        refine w_mv (pc1 := 99) (st1 := [.int 1, .int p1, .ref y3, .ref 6]) rfl rfl rfl ?_
        refine w_mv (pc1 := 100) (st1 := [.int (p1 + 1), .ref y3, .ref 6]) rfl rfl rfl ?_
        refine w_call (M' := sM_33) (vals := [.ref 6, .ref y3, .int (p1 + 1)]) (rest := []) (lv' := [(0, .ref 6), (1, .ref y3), (2, .int (p1 + 1))]) rfl rfl rfl rfl rfl rfl (cH_rcv (by omega) (by omega) g8) rfl rfl rfl ?_
        refine c_dep (d1 := d + 2 + h) (by omega) (hh _ _ _ _ (fun r9 N9 G9 kc9 ks9 hh => ?_))
        obtain ⟨v9, er9, hh⟩ := hh
        subst er9
        refine w_ki (pc1 := 103) rfl ?_
        by_cases h10 : v9.toInt = 0
        ·
          replace hh := hh.2 h10
          refine w_zne_F (pc1 := 106) rfl (by decide) rfl (show v9.toInt = 0 from h10) ?_
          refine w_mv (pc1 := 107) (st1 := [.null]) rfl rfl rfl ?_
          refine sx_wp.stop rfl rfl rfl ?_
          exact c_acc (hP _ _ _ _ _ hh) (by omega) (by omega)
        ·
          replace hh := hh.1 h10
          refine w_zne_T (pc1 := 108) rfl rfl (show v9.toInt ≠ 0 from h10) ?_
          refine w_mv (pc1 := 109) (st1 := [.ref y3]) rfl rfl rfl ?_
          refine sx_wp.stop rfl rfl rfl ?_
          exact c_acc (hP _ _ _ _ _ hh) (by omega) (by omega)
      ·
        replace hh := hh.2 h6
        refine w_ieq_F (pc1 := 24) rfl (by decide) rfl (show (f4 i2_2.toNatClampNeg).toInt ≠ 40 from h6) ?_
        refine w_mv (pc1 := 25) (st1 := [.int 0]) rfl rfl rfl ?_
        refine w_iret (pc1 := 92) rfl rfl rfl rfl ?_
        refine w_mv (pc1 := 108) (st1 := []) rfl rfl rfl ?_
        refine w_mv (pc1 := 109) (st1 := [.ref y3]) rfl rfl rfl ?_
        refine sx_wp.stop rfl rfl rfl ?_
        exact c_acc (hP _ _ _ _ _ hh) (by omega) (by omega)
