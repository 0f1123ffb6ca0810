/-! THE IMAGES of the class and of the JDK methods that it calls (by program: wip/sx/gen_cimg.py) -/
set_option maxRecDepth 20000 in
set_option maxHeartbeats 4000000 in
theorem k_40_0 {y1 : Nat} {N : Nat} {G : Nat → sx_C} {K : Option Value ⊕ Nat → Nat → (Nat → sx_C) → Nat → Nat → Prop} (hh : 6 < N ∧ ∃ (i1_1 : Int32) (i1_2 : Int32), G 6 = .inr (.inl (1, [.ref 7, .int i1_1, .int i1_2])) ∧ cT (60) sM_28 0 [(0, .ref 6), (1, .int 1)] [] (N) G (fun r2 N2 G2 kc2 ks2 => ∃ o2 : Option Nat, r2 = .inl (some (va_rf o2)) ∧ ((o2 = none → K (.inl (some (.null))) (N2) G2 (kc2) (ks2)) ∧ (∀ x3, o2 = some x3 → 6 < N2 ∧ ∃ (i4_1 : Int32) (i4_2 : Int32), G2 6 = .inr (.inl (1, [.ref 7, .int i4_1, .int i4_2])) ∧ ((i4_1.toInt ≤ i4_2.toInt → K (.inl (some (.null))) (N2) G2 (kc2) (ks2)) ∧ (i4_2.toInt < i4_1.toInt → 7 < N2 ∧ ∃ (f6 : Nat → Int32), G2 7 = .inl (1, (48, .inl f6)) ∧ 0 ≤ i4_2.toInt ∧ i4_2.toInt < (48 : Nat) ∧ (((f6 i4_2.toNatClampNeg).toInt = 43 → cT (60) sM_28 0 [(0, .ref 6), (1, .int 1)] [] (N2) (va_up G2 6 (.inr (.inl (1, [.ref 7, .int i4_1, .int (i4_2 + 1)])))) (fun r11 N11 G11 kc11 ks11 => ∃ o11 : Option Nat, r11 = .inl (some (va_rf o11)) ∧ ((o11 = none → K (.inl (some (.null))) (N11) G11 (kc2 + kc11) (ks2 + ks11)) ∧ (∀ x12, o11 = some x12 → 5 ≤ N11 ∧ K (.inl (some (.ref N11))) (N11 + 1) (va_up (va_up G11 N11 (.inr (.inl (9, [.int 0, .int 0, .null, .null, .null])))) N11 (.inr (.inl (9, [.int (f6 i4_2.toNatClampNeg), .int (-1), .ref y1, .ref x3, .ref x12])))) (kc2 + kc11 + 1) (ks2 + ks11 + 5))))) ∧ ((f6 i4_2.toNatClampNeg).toInt ≠ 43 → (((f6 i4_2.toNatClampNeg).toInt = 45 → cT (60) sM_28 0 [(0, .ref 6), (1, .int 1)] [] (N2) (va_up G2 6 (.inr (.inl (1, [.ref 7, .int i4_1, .int (i4_2 + 1)])))) (fun r23 N23 G23 kc23 ks23 => ∃ o23 : Option Nat, r23 = .inl (some (va_rf o23)) ∧ ((o23 = none → K (.inl (some (.null))) (N23) G23 (kc2 + kc23) (ks2 + ks23)) ∧ (∀ x24, o23 = some x24 → 5 ≤ N23 ∧ K (.inl (some (.ref N23))) (N23 + 1) (va_up (va_up G23 N23 (.inr (.inl (9, [.int 0, .int 0, .null, .null, .null])))) N23 (.inr (.inl (9, [.int (f6 i4_2.toNatClampNeg), .int (-1), .ref y1, .ref x3, .ref x24])))) (kc2 + kc23 + 1) (ks2 + ks23 + 5))))) ∧ ((f6 i4_2.toNatClampNeg).toInt ≠ 45 → (((f6 i4_2.toNatClampNeg).toInt = 42 → cT (60) sM_28 0 [(0, .ref 6), (1, .int 1)] [] (N2) (va_up G2 6 (.inr (.inl (1, [.ref 7, .int i4_1, .int (i4_2 + 1)])))) (fun r35 N35 G35 kc35 ks35 => ∃ o35 : Option Nat, r35 = .inl (some (va_rf o35)) ∧ ((o35 = none → K (.inl (some (.null))) (N35) G35 (kc2 + kc35) (ks2 + ks35)) ∧ (∀ x36, o35 = some x36 → 5 ≤ N35 ∧ K (.inl (some (.ref N35))) (N35 + 1) (va_up (va_up G35 N35 (.inr (.inl (9, [.int 0, .int 0, .null, .null, .null])))) N35 (.inr (.inl (9, [.int (f6 i4_2.toNatClampNeg), .int (-1), .ref y1, .ref x3, .ref x36])))) (kc2 + kc35 + 1) (ks2 + ks35 + 5))))) ∧ ((f6 i4_2.toNatClampNeg).toInt ≠ 42 → K (.inl (some (.null))) (N2) G2 (kc2) (ks2))))))))))))) : cT (61) sM_40 0 [(0, .ref 6), (1, .ref y1)] [] N G K := by
  intro d dc ds P hP
  refine w_mv (pc1 := 1) (st1 := [.ref 6]) rfl rfl rfl ?_
  refine w_mv (pc1 := 2) (st1 := [.int 1, .ref 6]) rfl rfl rfl ?_
  obtain ⟨b1b, i1_1, i1_2, g1, hh⟩ := hh
  refine w_call (M' := sM_28) (vals := [.ref 6, .int 1]) (rest := []) (lv' := [(0, .ref 6), (1, .int 1)]) rfl rfl rfl rfl rfl rfl (cH_rcv (by omega) (by omega) g1) rfl rfl rfl ?_
  refine hh _ _ _ _ (fun r2 N2 G2 kc2 ks2 hh => ?_)
  obtain ⟨o2, er2, hh⟩ := hh
  subst er2
  refine w_kr (pc1 := 5) rfl ?_
  refine w_mv (pc1 := 6) (lv1 := [(2, va_rf o2), (0, .ref 6), (1, .ref y1)]) (st1 := []) rfl rfl (by cases o2 <;> rfl) ?_
  refine w_mv (pc1 := 7) (lv1 := [(2, va_rf o2), (0, .ref 6), (1, .ref y1)]) (st1 := [va_rf o2]) rfl rfl (by cases o2 <;> rfl) ?_
  cases o2 with
  | none =>
    replace hh := hh.1 rfl
    refine w_mv (pc1 := 10) (st1 := []) rfl rfl rfl ?_
    refine w_mv (pc1 := 11) (st1 := [.null]) rfl rfl rfl ?_
    refine sx_wp.stop rfl rfl rfl ?_
    exact c_acc (hP _ _ _ _ _ hh) (by omega) (by omega)
  | some x3 =>
    replace hh := hh.2 x3 rfl
    refine w_mv (pc1 := 12) (st1 := []) rfl rfl rfl ?_
    refine w_mv (pc1 := 13) (st1 := [.ref 6]) rfl rfl rfl ?_
    obtain ⟨b4b, i4_1, i4_2, g4, hh⟩ := hh
    refine w_call (M' := sM_26) (vals := [.ref 6]) (rest := []) (lv' := [(0, .ref 6)]) rfl rfl rfl rfl rfl rfl (cH_rcv (by omega) (by omega) g4) rfl rfl rfl ?_
    refine w_mv (pc1 := 1) (st1 := [.ref 6]) rfl rfl rfl ?_
    refine cw_gf (v := .int i4_2) (pc1 := 4) rfl (by omega) (by omega) g4 rfl rfl ?_
    refine w_mv (pc1 := 5) (st1 := [.ref 6, .int i4_2]) rfl rfl rfl ?_
    refine cw_gf (v := .int i4_1) (pc1 := 8) rfl (by omega) (by omega) g4 rfl rfl ?_
    by_cases h5 : i4_1.toInt ≤ i4_2.toInt
    ·
      replace hh := hh.1 h5
      refine w_ige_T (pc1 := 23) rfl rfl (show i4_1.toInt ≤ i4_2.toInt from h5) ?_
      refine w_mv (pc1 := 24) (st1 := [.int 0]) rfl rfl rfl ?_
      refine w_iret (pc1 := 16) rfl rfl rfl rfl ?_
      refine w_mv (pc1 := 17) (lv1 := [(3, .int 0), (2, .ref x3), (0, .ref 6), (1, .ref y1)]) (st1 := []) rfl rfl rfl ?_
      refine w_mv (pc1 := 18) (st1 := [.int 0]) rfl rfl rfl ?_
      refine w_mv (pc1 := 20) (st1 := [.int 43, .int 0]) rfl rfl rfl ?_
      refine w_mv (pc1 := 23) (st1 := []) rfl rfl rfl ?_
      refine w_mv (pc1 := 24) (st1 := [.int 0]) rfl rfl rfl ?_
      refine w_mv (pc1 := 26) (st1 := [.int 45, .int 0]) rfl rfl rfl ?_
      refine w_mv (pc1 := 29) (st1 := []) rfl rfl rfl ?_
      refine w_mv (pc1 := 30) (st1 := [.int 0]) rfl rfl rfl ?_
      refine w_mv (pc1 := 32) (st1 := [.int 42, .int 0]) rfl rfl rfl ?_
      refine w_mv (pc1 := 35) (st1 := []) rfl rfl rfl ?_
      refine w_mv (pc1 := 36) (st1 := [.null]) rfl rfl rfl ?_
      refine sx_wp.stop rfl rfl rfl ?_
      exact c_acc (hP _ _ _ _ _ hh) (by omega) (by omega)
    ·
      replace hh := hh.2 (Int.not_le.mp h5)
      refine w_ige_F (pc1 := 11) rfl (by decide) rfl (show i4_2.toInt < i4_1.toInt from (Int.not_le.mp h5)) ?_
      refine w_mv (pc1 := 12) (st1 := [.ref 6]) rfl rfl rfl ?_
      refine cw_gf (v := .ref 7) (pc1 := 15) rfl (by omega) (by omega) g4 rfl rfl ?_
      refine w_mv (pc1 := 16) (st1 := [.ref 6, .ref 7]) rfl rfl rfl ?_
      refine cw_gf (v := .int i4_2) (pc1 := 19) rfl (by omega) (by omega) g4 rfl rfl ?_
      obtain ⟨b6b, f6, g6, hh⟩ := hh
      obtain ⟨q7a, q7b, hh⟩ := hh
      refine cw_bld (pc1 := 20) rfl (by omega) g6 q7a q7b rfl ?_
      refine w_mv (pc1 := 24) (st1 := [.int (f6 i4_2.toNatClampNeg)]) rfl rfl rfl ?_
      refine w_iret (pc1 := 16) rfl rfl rfl rfl ?_
      refine w_mv (pc1 := 17) (lv1 := [(3, .int (f6 i4_2.toNatClampNeg)), (2, .ref x3), (0, .ref 6), (1, .ref y1)]) (st1 := []) rfl rfl rfl ?_
      refine w_mv (pc1 := 18) (st1 := [.int (f6 i4_2.toNatClampNeg)]) rfl rfl rfl ?_
      refine w_mv (pc1 := 20) (st1 := [.int 43, .int (f6 i4_2.toNatClampNeg)]) rfl rfl rfl ?_
      by_cases h8 : (f6 i4_2.toNatClampNeg).toInt = 43
      ·
        replace hh := hh.1 h8
        refine w_ieq_T (pc1 := 37) rfl rfl (show (f6 i4_2.toNatClampNeg).toInt = 43 from h8) ?_
        refine w_mv (pc1 := 38) (st1 := [.ref 6]) rfl rfl rfl ?_
        refine w_mv (pc1 := 39) (st1 := [.ref 6, .ref 6]) rfl rfl rfl ?_
        refine cw_gf (v := .int i4_2) (pc1 := 42) rfl (by omega) (by omega) g4 rfl rfl ?_
        refine w_mv (pc1 := 43) (st1 := [.int 1, .int i4_2, .ref 6]) rfl rfl rfl ?_
        refine w_mv (pc1 := 44) (st1 := [.int (i4_2 + 1), .ref 6]) rfl rfl rfl ?_
        refine cw_pf (c1 := .inr (.inl (1, [.ref 7, .int i4_1, .int (i4_2 + 1)]))) (pc1 := 47) rfl (by omega) (by omega) g4 rfl rfl rfl rfl ?_
        have g9 : (va_up G2 6 (.inr (.inl (1, [.ref 7, .int i4_1, .int (i4_2 + 1)])))) 7 = .inl (1, (48, .inl f6)) := (va_ne (ne_ao g6 g4)).trans g6
        have g10 : (va_up G2 6 (.inr (.inl (1, [.ref 7, .int i4_1, .int (i4_2 + 1)])))) 6 = .inr (.inl (1, [.ref 7, .int i4_1, .int (i4_2 + 1)])) := up_eq
        refine w_mv (pc1 := 48) (st1 := [.ref 6]) rfl rfl rfl ?_
        refine w_mv (pc1 := 49) (st1 := [.int 1, .ref 6]) rfl rfl rfl ?_
        refine w_call (M' := sM_28) (vals := [.ref 6, .int 1]) (rest := []) (lv' := [(0, .ref 6), (1, .int 1)]) rfl rfl rfl rfl rfl rfl (cH_rcv (by omega) (by omega) g10) rfl rfl rfl ?_
        refine hh _ _ _ _ (fun r11 N11 G11 kc11 ks11 hh => ?_)
        obtain ⟨o11, er11, hh⟩ := hh
        subst er11
        refine w_kr (pc1 := 52) rfl ?_
        refine w_mv (pc1 := 54) (lv1 := [(4, va_rf o11), (3, .int (f6 i4_2.toNatClampNeg)), (2, .ref x3), (0, .ref 6), (1, .ref y1)]) (st1 := []) rfl rfl (by cases o11 <;> rfl) ?_
        refine w_mv (pc1 := 56) (lv1 := [(4, va_rf o11), (3, .int (f6 i4_2.toNatClampNeg)), (2, .ref x3), (0, .ref 6), (1, .ref y1)]) (st1 := [va_rf o11]) rfl rfl (by cases o11 <;> rfl) ?_
        cases o11 with
        | none =>
          replace hh := hh.1 rfl
          refine w_mv (pc1 := 59) (st1 := []) rfl rfl rfl ?_
          refine w_mv (pc1 := 60) (st1 := [.null]) rfl rfl rfl ?_
          refine w_mv (pc1 := 76) (st1 := [.null]) rfl rfl rfl ?_
          refine sx_wp.stop rfl rfl rfl ?_
          exact c_acc (hP _ _ _ _ _ hh) (by omega) (by omega)
        | some x12 =>
          replace hh := hh.2 x12 rfl
          refine w_mv (pc1 := 63) (st1 := []) rfl rfl rfl ?_
          obtain ⟨q13a, hh⟩ := hh
          refine cw_new (k := 5) (c1 := .inr (.inl (9, [.int 0, .int 0, .null, .null, .null]))) (pc1 := 66) rfl rfl rfl rfl ?_
          have g14 : (va_up G11 N11 (.inr (.inl (9, [.int 0, .int 0, .null, .null, .null])))) N11 = .inr (.inl (9, [.int 0, .int 0, .null, .null, .null])) := up_eq
          refine w_mv (pc1 := 67) (st1 := [.ref N11, .ref N11]) rfl rfl rfl ?_
          refine w_mv (pc1 := 68) (st1 := [.int (f6 i4_2.toNatClampNeg), .ref N11, .ref N11]) rfl rfl rfl ?_
          refine w_mv (pc1 := 69) (st1 := [.int (-1), .int (f6 i4_2.toNatClampNeg), .ref N11, .ref N11]) rfl rfl rfl ?_
          refine w_mv (pc1 := 70) (st1 := [.ref y1, .int (-1), .int (f6 i4_2.toNatClampNeg), .ref N11, .ref N11]) rfl rfl rfl ?_
          refine w_mv (pc1 := 71) (st1 := [.ref x3, .ref y1, .int (-1), .int (f6 i4_2.toNatClampNeg), .ref N11, .ref N11]) rfl rfl rfl ?_
          refine w_mv (pc1 := 73) (st1 := [.ref x12, .ref x3, .ref y1, .int (-1), .int (f6 i4_2.toNatClampNeg), .ref N11, .ref N11]) rfl rfl rfl ?_
          refine w_call (M' := sM_38) (vals := [.ref N11, .int (f6 i4_2.toNatClampNeg), .int (-1), .ref y1, .ref x3, .ref x12]) (rest := [.ref N11]) (lv' := [(0, .ref N11), (1, .int (f6 i4_2.toNatClampNeg)), (2, .int (-1)), (3, .ref y1), (4, .ref x3), (5, .ref x12)]) rfl rfl rfl rfl rfl rfl rfl rfl rfl rfl ?_
          refine w_mv (pc1 := 1) (st1 := [.ref N11]) rfl rfl rfl ?_
          refine w_obj (pc1 := 4) (st1 := []) rfl rfl rfl ⟨by omega, Nat.le_of_ble_eq_true rfl⟩ rfl ?_
          refine w_mv (pc1 := 5) (st1 := [.ref N11]) rfl rfl rfl ?_
          refine w_mv (pc1 := 6) (st1 := [.int (f6 i4_2.toNatClampNeg), .ref N11]) rfl rfl rfl ?_
          refine cw_pf (c1 := .inr (.inl (9, [.int (f6 i4_2.toNatClampNeg), .int 0, .null, .null, .null]))) (pc1 := 9) rfl (by omega) (by omega) g14 rfl rfl rfl rfl ?_
          have g15 : (va_up (va_up G11 N11 (.inr (.inl (9, [.int 0, .int 0, .null, .null, .null])))) N11 (.inr (.inl (9, [.int (f6 i4_2.toNatClampNeg), .int 0, .null, .null, .null])))) N11 = .inr (.inl (9, [.int (f6 i4_2.toNatClampNeg), .int 0, .null, .null, .null])) := up_eq
          refine w_mv (pc1 := 10) (st1 := [.ref N11]) rfl rfl rfl ?_
          refine w_mv (pc1 := 11) (st1 := [.int (-1), .ref N11]) rfl rfl rfl ?_
          refine cw_pf (c1 := .inr (.inl (9, [.int (f6 i4_2.toNatClampNeg), .int (-1), .null, .null, .null]))) (pc1 := 14) rfl (by omega) (by omega) g15 rfl rfl rfl rfl ?_
          rw [va_uu]
          have g16 : (va_up (va_up G11 N11 (.inr (.inl (9, [.int 0, .int 0, .null, .null, .null])))) N11 (.inr (.inl (9, [.int (f6 i4_2.toNatClampNeg), .int (-1), .null, .null, .null])))) N11 = .inr (.inl (9, [.int (f6 i4_2.toNatClampNeg), .int (-1), .null, .null, .null])) := up_eq
          refine w_mv (pc1 := 15) (st1 := [.ref N11]) rfl rfl rfl ?_
          refine w_mv (pc1 := 16) (st1 := [.ref y1, .ref N11]) rfl rfl rfl ?_
          refine cw_pf (c1 := .inr (.inl (9, [.int (f6 i4_2.toNatClampNeg), .int (-1), .ref y1, .null, .null]))) (pc1 := 19) rfl (by omega) (by omega) g16 rfl rfl rfl rfl ?_
          rw [va_uu]
          have g17 : (va_up (va_up G11 N11 (.inr (.inl (9, [.int 0, .int 0, .null, .null, .null])))) N11 (.inr (.inl (9, [.int (f6 i4_2.toNatClampNeg), .int (-1), .ref y1, .null, .null])))) N11 = .inr (.inl (9, [.int (f6 i4_2.toNatClampNeg), .int (-1), .ref y1, .null, .null])) := up_eq
          refine w_mv (pc1 := 20) (st1 := [.ref N11]) rfl rfl rfl ?_
          refine w_mv (pc1 := 22) (st1 := [.ref x3, .ref N11]) rfl rfl rfl ?_
          refine cw_pf (c1 := .inr (.inl (9, [.int (f6 i4_2.toNatClampNeg), .int (-1), .ref y1, .ref x3, .null]))) (pc1 := 25) rfl (by omega) (by omega) g17 rfl rfl rfl rfl ?_
          rw [va_uu]
          have g18 : (va_up (va_up G11 N11 (.inr (.inl (9, [.int 0, .int 0, .null, .null, .null])))) N11 (.inr (.inl (9, [.int (f6 i4_2.toNatClampNeg), .int (-1), .ref y1, .ref x3, .null])))) N11 = .inr (.inl (9, [.int (f6 i4_2.toNatClampNeg), .int (-1), .ref y1, .ref x3, .null])) := up_eq
          refine w_mv (pc1 := 26) (st1 := [.ref N11]) rfl rfl rfl ?_
          refine w_mv (pc1 := 28) (st1 := [.ref x12, .ref N11]) rfl rfl rfl ?_
          refine cw_pf (c1 := .inr (.inl (9, [.int (f6 i4_2.toNatClampNeg), .int (-1), .ref y1, .ref x3, .ref x12]))) (pc1 := 31) rfl (by omega) (by omega) g18 rfl rfl rfl rfl ?_
          rw [va_uu]
          have g19 : (va_up (va_up G11 N11 (.inr (.inl (9, [.int 0, .int 0, .null, .null, .null])))) N11 (.inr (.inl (9, [.int (f6 i4_2.toNatClampNeg), .int (-1), .ref y1, .ref x3, .ref x12])))) N11 = .inr (.inl (9, [.int (f6 i4_2.toNatClampNeg), .int (-1), .ref y1, .ref x3, .ref x12])) := up_eq
          refine w_vret (pc1 := 76) rfl rfl rfl ?_
          refine sx_wp.stop rfl rfl rfl ?_
          exact c_acc (hP _ _ _ _ _ hh) (by omega) (by omega)
      ·
        replace hh := hh.2 h8
        refine w_ieq_F (pc1 := 23) rfl (by decide) rfl (show (f6 i4_2.toNatClampNeg).toInt ≠ 43 from h8) ?_
        refine w_mv (pc1 := 24) (st1 := [.int (f6 i4_2.toNatClampNeg)]) rfl rfl rfl ?_
        refine w_mv (pc1 := 26) (st1 := [.int 45, .int (f6 i4_2.toNatClampNeg)]) rfl rfl rfl ?_
        by_cases h20 : (f6 i4_2.toNatClampNeg).toInt = 45
        ·
          replace hh := hh.1 h20
          refine w_ieq_T (pc1 := 37) rfl rfl (show (f6 i4_2.toNatClampNeg).toInt = 45 from h20) ?_
          refine w_mv (pc1 := 38) (st1 := [.ref 6]) rfl rfl rfl ?_
          refine w_mv (pc1 := 39) (st1 := [.ref 6, .ref 6]) rfl rfl rfl ?_
          refine cw_gf (v := .int i4_2) (pc1 := 42) rfl (by omega) (by omega) g4 rfl rfl ?_
          refine w_mv (pc1 := 43) (st1 := [.int 1, .int i4_2, .ref 6]) rfl rfl rfl ?_
          refine w_mv (pc1 := 44) (st1 := [.int (i4_2 + 1), .ref 6]) rfl rfl rfl ?_
          refine cw_pf (c1 := .inr (.inl (1, [.ref 7, .int i4_1, .int (i4_2 + 1)]))) (pc1 := 47) rfl (by omega) (by omega) g4 rfl rfl rfl rfl ?_
          have g21 : (va_up G2 6 (.inr (.inl (1, [.ref 7, .int i4_1, .int (i4_2 + 1)])))) 7 = .inl (1, (48, .inl f6)) := (va_ne (ne_ao g6 g4)).trans g6
          have g22 : (va_up G2 6 (.inr (.inl (1, [.ref 7, .int i4_1, .int (i4_2 + 1)])))) 6 = .inr (.inl (1, [.ref 7, .int i4_1, .int (i4_2 + 1)])) := up_eq
          refine w_mv (pc1 := 48) (st1 := [.ref 6]) rfl rfl rfl ?_
          refine w_mv (pc1 := 49) (st1 := [.int 1, .ref 6]) rfl rfl rfl ?_
          refine w_call (M' := sM_28) (vals := [.ref 6, .int 1]) (rest := []) (lv' := [(0, .ref 6), (1, .int 1)]) rfl rfl rfl rfl rfl rfl (cH_rcv (by omega) (by omega) g22) rfl rfl rfl ?_
          refine hh _ _ _ _ (fun r23 N23 G23 kc23 ks23 hh => ?_)
          obtain ⟨o23, er23, hh⟩ := hh
          subst er23
          refine w_kr (pc1 := 52) rfl ?_
          refine w_mv (pc1 := 54) (lv1 := [(4, va_rf o23), (3, .int (f6 i4_2.toNatClampNeg)), (2, .ref x3), (0, .ref 6), (1, .ref y1)]) (st1 := []) rfl rfl (by cases o23 <;> rfl) ?_
          refine w_mv (pc1 := 56) (lv1 := [(4, va_rf o23), (3, .int (f6 i4_2.toNatClampNeg)), (2, .ref x3), (0, .ref 6), (1, .ref y1)]) (st1 := [va_rf o23]) rfl rfl (by cases o23 <;> rfl) ?_
          cases o23 with
          | none =>
            replace hh := hh.1 rfl
            refine w_mv (pc1 := 59) (st1 := []) rfl rfl rfl ?_
            refine w_mv (pc1 := 60) (st1 := [.null]) rfl rfl rfl ?_
            refine w_mv (pc1 := 76) (st1 := [.null]) rfl rfl rfl ?_
            refine sx_wp.stop rfl rfl rfl ?_
            exact c_acc (hP _ _ _ _ _ hh) (by omega) (by omega)
          | some x24 =>
            replace hh := hh.2 x24 rfl
            refine w_mv (pc1 := 63) (st1 := []) rfl rfl rfl ?_
            obtain ⟨q25a, hh⟩ := hh
            refine cw_new (k := 5) (c1 := .inr (.inl (9, [.int 0, .int 0, .null, .null, .null]))) (pc1 := 66) rfl rfl rfl rfl ?_
            have g26 : (va_up G23 N23 (.inr (.inl (9, [.int 0, .int 0, .null, .null, .null])))) N23 = .inr (.inl (9, [.int 0, .int 0, .null, .null, .null])) := up_eq
            refine w_mv (pc1 := 67) (st1 := [.ref N23, .ref N23]) rfl rfl rfl ?_
            refine w_mv (pc1 := 68) (st1 := [.int (f6 i4_2.toNatClampNeg), .ref N23, .ref N23]) rfl rfl rfl ?_
            refine w_mv (pc1 := 69) (st1 := [.int (-1), .int (f6 i4_2.toNatClampNeg), .ref N23, .ref N23]) rfl rfl rfl ?_
            refine w_mv (pc1 := 70) (st1 := [.ref y1, .int (-1), .int (f6 i4_2.toNatClampNeg), .ref N23, .ref N23]) rfl rfl rfl ?_
            refine w_mv (pc1 := 71) (st1 := [.ref x3, .ref y1, .int (-1), .int (f6 i4_2.toNatClampNeg), .ref N23, .ref N23]) rfl rfl rfl ?_
            refine w_mv (pc1 := 73) (st1 := [.ref x24, .ref x3, .ref y1, .int (-1), .int (f6 i4_2.toNatClampNeg), .ref N23, .ref N23]) rfl rfl rfl ?_
            refine w_call (M' := sM_38) (vals := [.ref N23, .int (f6 i4_2.toNatClampNeg), .int (-1), .ref y1, .ref x3, .ref x24]) (rest := [.ref N23]) (lv' := [(0, .ref N23), (1, .int (f6 i4_2.toNatClampNeg)), (2, .int (-1)), (3, .ref y1), (4, .ref x3), (5, .ref x24)]) rfl rfl rfl rfl rfl rfl rfl rfl rfl rfl ?_
            refine w_mv (pc1 := 1) (st1 := [.ref N23]) rfl rfl rfl ?_
            refine w_obj (pc1 := 4) (st1 := []) rfl rfl rfl ⟨by omega, Nat.le_of_ble_eq_true rfl⟩ rfl ?_
            refine w_mv (pc1 := 5) (st1 := [.ref N23]) rfl rfl rfl ?_
            refine w_mv (pc1 := 6) (st1 := [.int (f6 i4_2.toNatClampNeg), .ref N23]) rfl rfl rfl ?_
            refine cw_pf (c1 := .inr (.inl (9, [.int (f6 i4_2.toNatClampNeg), .int 0, .null, .null, .null]))) (pc1 := 9) rfl (by omega) (by omega) g26 rfl rfl rfl rfl ?_
            have g27 : (va_up (va_up G23 N23 (.inr (.inl (9, [.int 0, .int 0, .null, .null, .null])))) N23 (.inr (.inl (9, [.int (f6 i4_2.toNatClampNeg), .int 0, .null, .null, .null])))) N23 = .inr (.inl (9, [.int (f6 i4_2.toNatClampNeg), .int 0, .null, .null, .null])) := up_eq
            refine w_mv (pc1 := 10) (st1 := [.ref N23]) rfl rfl rfl ?_
            refine w_mv (pc1 := 11) (st1 := [.int (-1), .ref N23]) rfl rfl rfl ?_
            refine cw_pf (c1 := .inr (.inl (9, [.int (f6 i4_2.toNatClampNeg), .int (-1), .null, .null, .null]))) (pc1 := 14) rfl (by omega) (by omega) g27 rfl rfl rfl rfl ?_
            rw [va_uu]
            have g28 : (va_up (va_up G23 N23 (.inr (.inl (9, [.int 0, .int 0, .null, .null, .null])))) N23 (.inr (.inl (9, [.int (f6 i4_2.toNatClampNeg), .int (-1), .null, .null, .null])))) N23 = .inr (.inl (9, [.int (f6 i4_2.toNatClampNeg), .int (-1), .null, .null, .null])) := up_eq
            refine w_mv (pc1 := 15) (st1 := [.ref N23]) rfl rfl rfl ?_
            refine w_mv (pc1 := 16) (st1 := [.ref y1, .ref N23]) rfl rfl rfl ?_
            refine cw_pf (c1 := .inr (.inl (9, [.int (f6 i4_2.toNatClampNeg), .int (-1), .ref y1, .null, .null]))) (pc1 := 19) rfl (by omega) (by omega) g28 rfl rfl rfl rfl ?_
            rw [va_uu]
            have g29 : (va_up (va_up G23 N23 (.inr (.inl (9, [.int 0, .int 0, .null, .null, .null])))) N23 (.inr (.inl (9, [.int (f6 i4_2.toNatClampNeg), .int (-1), .ref y1, .null, .null])))) N23 = .inr (.inl (9, [.int (f6 i4_2.toNatClampNeg), .int (-1), .ref y1, .null, .null])) := up_eq
            refine w_mv (pc1 := 20) (st1 := [.ref N23]) rfl rfl rfl ?_
            refine w_mv (pc1 := 22) (st1 := [.ref x3, .ref N23]) rfl rfl rfl ?_
            refine cw_pf (c1 := .inr (.inl (9, [.int (f6 i4_2.toNatClampNeg), .int (-1), .ref y1, .ref x3, .null]))) (pc1 := 25) rfl (by omega) (by omega) g29 rfl rfl rfl rfl ?_
            rw [va_uu]
            have g30 : (va_up (va_up G23 N23 (.inr (.inl (9, [.int 0, .int 0, .null, .null, .null])))) N23 (.inr (.inl (9, [.int (f6 i4_2.toNatClampNeg), .int (-1), .ref y1, .ref x3, .null])))) N23 = .inr (.inl (9, [.int (f6 i4_2.toNatClampNeg), .int (-1), .ref y1, .ref x3, .null])) := up_eq
            refine w_mv (pc1 := 26) (st1 := [.ref N23]) rfl rfl rfl ?_
            refine w_mv (pc1 := 28) (st1 := [.ref x24, .ref N23]) rfl rfl rfl ?_
            refine cw_pf (c1 := .inr (.inl (9, [.int (f6 i4_2.toNatClampNeg), .int (-1), .ref y1, .ref x3, .ref x24]))) (pc1 := 31) rfl (by omega) (by omega) g30 rfl rfl rfl rfl ?_
            rw [va_uu]
            have g31 : (va_up (va_up G23 N23 (.inr (.inl (9, [.int 0, .int 0, .null, .null, .null])))) N23 (.inr (.inl (9, [.int (f6 i4_2.toNatClampNeg), .int (-1), .ref y1, .ref x3, .ref x24])))) N23 = .inr (.inl (9, [.int (f6 i4_2.toNatClampNeg), .int (-1), .ref y1, .ref x3, .ref x24])) := up_eq
            refine w_vret (pc1 := 76) rfl rfl rfl ?_
            refine sx_wp.stop rfl rfl rfl ?_
            exact c_acc (hP _ _ _ _ _ hh) (by omega) (by omega)
        ·
          replace hh := hh.2 h20
          refine w_ieq_F (pc1 := 29) rfl (by decide) rfl (show (f6 i4_2.toNatClampNeg).toInt ≠ 45 from h20) ?_
          refine w_mv (pc1 := 30) (st1 := [.int (f6 i4_2.toNatClampNeg)]) rfl rfl rfl ?_
          refine w_mv (pc1 := 32) (st1 := [.int 42, .int (f6 i4_2.toNatClampNeg)]) rfl rfl rfl ?_
          by_cases h32 : (f6 i4_2.toNatClampNeg).toInt = 42
          ·
            replace hh := hh.1 h32
            refine w_ieq_T (pc1 := 37) rfl rfl (show (f6 i4_2.toNatClampNeg).toInt = 42 from h32) ?_
            refine w_mv (pc1 := 38) (st1 := [.ref 6]) rfl rfl rfl ?_
            refine w_mv (pc1 := 39) (st1 := [.ref 6, .ref 6]) rfl rfl rfl ?_
            refine cw_gf (v := .int i4_2) (pc1 := 42) rfl (by omega) (by omega) g4 rfl rfl ?_
            refine w_mv (pc1 := 43) (st1 := [.int 1, .int i4_2, .ref 6]) rfl rfl rfl ?_
            refine w_mv (pc1 := 44) (st1 := [.int (i4_2 + 1), .ref 6]) rfl rfl rfl ?_
            refine cw_pf (c1 := .inr (.inl (1, [.ref 7, .int i4_1, .int (i4_2 + 1)]))) (pc1 := 47) rfl (by omega) (by omega) g4 rfl rfl rfl rfl ?_
            have g33 : (va_up G2 6 (.inr (.inl (1, [.ref 7, .int i4_1, .int (i4_2 + 1)])))) 7 = .inl (1, (48, .inl f6)) := (va_ne (ne_ao g6 g4)).trans g6
            have g34 : (va_up G2 6 (.inr (.inl (1, [.ref 7, .int i4_1, .int (i4_2 + 1)])))) 6 = .inr (.inl (1, [.ref 7, .int i4_1, .int (i4_2 + 1)])) := up_eq
            refine w_mv (pc1 := 48) (st1 := [.ref 6]) rfl rfl rfl ?_
            refine w_mv (pc1 := 49) (st1 := [.int 1, .ref 6]) rfl rfl rfl ?_
            refine w_call (M' := sM_28) (vals := [.ref 6, .int 1]) (rest := []) (lv' := [(0, .ref 6), (1, .int 1)]) rfl rfl rfl rfl rfl rfl (cH_rcv (by omega) (by omega) g34) rfl rfl rfl ?_
            refine hh _ _ _ _ (fun r35 N35 G35 kc35 ks35 hh => ?_)
            obtain ⟨o35, er35, hh⟩ := hh
            subst er35
            refine w_kr (pc1 := 52) rfl ?_
            refine w_mv (pc1 := 54) (lv1 := [(4, va_rf o35), (3, .int (f6 i4_2.toNatClampNeg)), (2, .ref x3), (0, .ref 6), (1, .ref y1)]) (st1 := []) rfl rfl (by cases o35 <;> rfl) ?_
            refine w_mv (pc1 := 56) (lv1 := [(4, va_rf o35), (3, .int (f6 i4_2.toNatClampNeg)), (2, .ref x3), (0, .ref 6), (1, .ref y1)]) (st1 := [va_rf o35]) rfl rfl (by cases o35 <;> rfl) ?_
            cases o35 with
            | none =>
              replace hh := hh.1 rfl
              refine w_mv (pc1 := 59) (st1 := []) rfl rfl rfl ?_
              refine w_mv (pc1 := 60) (st1 := [.null]) rfl rfl rfl ?_
              refine w_mv (pc1 := 76) (st1 := [.null]) rfl rfl rfl ?_
              refine sx_wp.stop rfl rfl rfl ?_
              exact c_acc (hP _ _ _ _ _ hh) (by omega) (by omega)
            | some x36 =>
              replace hh := hh.2 x36 rfl
              refine w_mv (pc1 := 63) (st1 := []) rfl rfl rfl ?_
              obtain ⟨q37a, hh⟩ := hh
              refine cw_new (k := 5) (c1 := .inr (.inl (9, [.int 0, .int 0, .null, .null, .null]))) (pc1 := 66) rfl rfl rfl rfl ?_
              have g38 : (va_up G35 N35 (.inr (.inl (9, [.int 0, .int 0, .null, .null, .null])))) N35 = .inr (.inl (9, [.int 0, .int 0, .null, .null, .null])) := up_eq
              refine w_mv (pc1 := 67) (st1 := [.ref N35, .ref N35]) rfl rfl rfl ?_
              refine w_mv (pc1 := 68) (st1 := [.int (f6 i4_2.toNatClampNeg), .ref N35, .ref N35]) rfl rfl rfl ?_
              refine w_mv (pc1 := 69) (st1 := [.int (-1), .int (f6 i4_2.toNatClampNeg), .ref N35, .ref N35]) rfl rfl rfl ?_
              refine w_mv (pc1 := 70) (st1 := [.ref y1, .int (-1), .int (f6 i4_2.toNatClampNeg), .ref N35, .ref N35]) rfl rfl rfl ?_
              refine w_mv (pc1 := 71) (st1 := [.ref x3, .ref y1, .int (-1), .int (f6 i4_2.toNatClampNeg), .ref N35, .ref N35]) rfl rfl rfl ?_
              refine w_mv (pc1 := 73) (st1 := [.ref x36, .ref x3, .ref y1, .int (-1), .int (f6 i4_2.toNatClampNeg), .ref N35, .ref N35]) rfl rfl rfl ?_
              refine w_call (M' := sM_38) (vals := [.ref N35, .int (f6 i4_2.toNatClampNeg), .int (-1), .ref y1, .ref x3, .ref x36]) (rest := [.ref N35]) (lv' := [(0, .ref N35), (1, .int (f6 i4_2.toNatClampNeg)), (2, .int (-1)), (3, .ref y1), (4, .ref x3), (5, .ref x36)]) rfl rfl rfl rfl rfl rfl rfl rfl rfl rfl ?_
              refine w_mv (pc1 := 1) (st1 := [.ref N35]) rfl rfl rfl ?_
              refine w_obj (pc1 := 4) (st1 := []) rfl rfl rfl ⟨by omega, Nat.le_of_ble_eq_true rfl⟩ rfl ?_
              refine w_mv (pc1 := 5) (st1 := [.ref N35]) rfl rfl rfl ?_
              refine w_mv (pc1 := 6) (st1 := [.int (f6 i4_2.toNatClampNeg), .ref N35]) rfl rfl rfl ?_
              refine cw_pf (c1 := .inr (.inl (9, [.int (f6 i4_2.toNatClampNeg), .int 0, .null, .null, .null]))) (pc1 := 9) rfl (by omega) (by omega) g38 rfl rfl rfl rfl ?_
              have g39 : (va_up (va_up G35 N35 (.inr (.inl (9, [.int 0, .int 0, .null, .null, .null])))) N35 (.inr (.inl (9, [.int (f6 i4_2.toNatClampNeg), .int 0, .null, .null, .null])))) N35 = .inr (.inl (9, [.int (f6 i4_2.toNatClampNeg), .int 0, .null, .null, .null])) := up_eq
              refine w_mv (pc1 := 10) (st1 := [.ref N35]) rfl rfl rfl ?_
              refine w_mv (pc1 := 11) (st1 := [.int (-1), .ref N35]) rfl rfl rfl ?_
              refine cw_pf (c1 := .inr (.inl (9, [.int (f6 i4_2.toNatClampNeg), .int (-1), .null, .null, .null]))) (pc1 := 14) rfl (by omega) (by omega) g39 rfl rfl rfl rfl ?_
              rw [va_uu]
              have g40 : (va_up (va_up G35 N35 (.inr (.inl (9, [.int 0, .int 0, .null, .null, .null])))) N35 (.inr (.inl (9, [.int (f6 i4_2.toNatClampNeg), .int (-1), .null, .null, .null])))) N35 = .inr (.inl (9, [.int (f6 i4_2.toNatClampNeg), .int (-1), .null, .null, .null])) := up_eq
              refine w_mv (pc1 := 15) (st1 := [.ref N35]) rfl rfl rfl ?_
              refine w_mv (pc1 := 16) (st1 := [.ref y1, .ref N35]) rfl rfl rfl ?_
              refine cw_pf (c1 := .inr (.inl (9, [.int (f6 i4_2.toNatClampNeg), .int (-1), .ref y1, .null, .null]))) (pc1 := 19) rfl (by omega) (by omega) g40 rfl rfl rfl rfl ?_
              rw [va_uu]
              have g41 : (va_up (va_up G35 N35 (.inr (.inl (9, [.int 0, .int 0, .null, .null, .null])))) N35 (.inr (.inl (9, [.int (f6 i4_2.toNatClampNeg), .int (-1), .ref y1, .null, .null])))) N35 = .inr (.inl (9, [.int (f6 i4_2.toNatClampNeg), .int (-1), .ref y1, .null, .null])) := up_eq
              refine w_mv (pc1 := 20) (st1 := [.ref N35]) rfl rfl rfl ?_
              refine w_mv (pc1 := 22) (st1 := [.ref x3, .ref N35]) rfl rfl rfl ?_
              refine cw_pf (c1 := .inr (.inl (9, [.int (f6 i4_2.toNatClampNeg), .int (-1), .ref y1, .ref x3, .null]))) (pc1 := 25) rfl (by omega) (by omega) g41 rfl rfl rfl rfl ?_
              rw [va_uu]
              have g42 : (va_up (va_up G35 N35 (.inr (.inl (9, [.int 0, .int 0, .null, .null, .null])))) N35 (.inr (.inl (9, [.int (f6 i4_2.toNatClampNeg), .int (-1), .ref y1, .ref x3, .null])))) N35 = .inr (.inl (9, [.int (f6 i4_2.toNatClampNeg), .int (-1), .ref y1, .ref x3, .null])) := up_eq
              refine w_mv (pc1 := 26) (st1 := [.ref N35]) rfl rfl rfl ?_
              refine w_mv (pc1 := 28) (st1 := [.ref x36, .ref N35]) rfl rfl rfl ?_
              refine cw_pf (c1 := .inr (.inl (9, [.int (f6 i4_2.toNatClampNeg), .int (-1), .ref y1, .ref x3, .ref x36]))) (pc1 := 31) rfl (by omega) (by omega) g42 rfl rfl rfl rfl ?_
              rw [va_uu]
              have g43 : (va_up (va_up G35 N35 (.inr (.inl (9, [.int 0, .int 0, .null, .null, .null])))) N35 (.inr (.inl (9, [.int (f6 i4_2.toNatClampNeg), .int (-1), .ref y1, .ref x3, .ref x36])))) N35 = .inr (.inl (9, [.int (f6 i4_2.toNatClampNeg), .int (-1), .ref y1, .ref x3, .ref x36])) := up_eq
              refine w_vret (pc1 := 76) rfl rfl rfl ?_
              refine sx_wp.stop rfl rfl rfl ?_
              exact c_acc (hP _ _ _ _ _ hh) (by omega) (by omega)
          ·
            replace hh := hh.2 h32
            refine w_ieq_F (pc1 := 35) rfl (by decide) rfl (show (f6 i4_2.toNatClampNeg).toInt ≠ 42 from h32) ?_
            refine w_mv (pc1 := 36) (st1 := [.null]) rfl rfl rfl ?_
            refine sx_wp.stop rfl rfl rfl ?_
            exact c_acc (hP _ _ _ _ _ hh) (by omega) (by omega)
set_option maxRecDepth 20000 in
set_option maxHeartbeats 4000000 in
theorem k_41_0 {y1 : Nat} {N : Nat} {G : Nat → sx_C} {K : Option Value ⊕ Nat → Nat → (Nat → sx_C) → Nat → Nat → Prop} (hh : 6 < N ∧ ∃ (i1_1 : Int32) (i1_2 : Int32), G 6 = .inr (.inl (1, [.ref 7, .int i1_1, .int i1_2])) ∧ ((i1_1.toInt ≤ i1_2.toInt → 5 ≤ N ∧ K (.inl (some (.ref N))) (N + 1) (va_up (va_up G N (.inr (.inl (9, [.int 0, .int 0, .null, .null, .null])))) N (.inr (.inl (9, [.int 99, .int (-1), .ref y1, .null, .null])))) (1) (5)) ∧ (i1_2.toInt < i1_1.toInt → 7 < N ∧ ∃ (f16 : Nat → Int32), G 7 = .inl (1, (48, .inl f16)) ∧ 0 ≤ i1_2.toInt ∧ i1_2.toInt < (48 : Nat) ∧ (((f16 i1_2.toNatClampNeg).toInt = 94 → ((i1_1.toInt ≤ (i1_2 + 1).toInt → K (.inl (some (.null))) (N) (va_up G 6 (.inr (.inl (1, [.ref 7, .int i1_1, .int (i1_2 + 1)])))) (0) (0)) ∧ ((i1_2 + 1).toInt < i1_1.toInt → 0 ≤ (i1_2 + 1).toInt ∧ (i1_2 + 1).toInt < (48 : Nat) ∧ ((((f16 (i1_2 + 1).toNatClampNeg) - 48).toInt < 0 → K (.inl (some (.null))) (N) (va_up G 6 (.inr (.inl (1, [.ref 7, .int i1_1, .int (i1_2 + 1)])))) (0) (0)) ∧ (0 ≤ ((f16 (i1_2 + 1).toNatClampNeg) - 48).toInt → ((((f16 (i1_2 + 1).toNatClampNeg) - 48).toInt < 4 → 5 ≤ N ∧ K (.inl (some (.ref N))) (N + 1) (va_up (va_up (va_up G 6 (.inr (.inl (1, [.ref 7, .int i1_1, .int (i1_2 + 1 + 1)])))) N (.inr (.inl (9, [.int 0, .int 0, .null, .null, .null])))) N (.inr (.inl (9, [.int 99, .int ((f16 (i1_2 + 1).toNatClampNeg) - 48), .ref y1, .null, .null])))) (1) (5)) ∧ (4 ≤ ((f16 (i1_2 + 1).toNatClampNeg) - 48).toInt → K (.inl (some (.null))) (N) (va_up G 6 (.inr (.inl (1, [.ref 7, .int i1_1, .int (i1_2 + 1)])))) (0) (0)))))))) ∧ ((f16 i1_2.toNatClampNeg).toInt ≠ 94 → 5 ≤ N ∧ K (.inl (some (.ref N))) (N + 1) (va_up (va_up G N (.inr (.inl (9, [.int 0, .int 0, .null, .null, .null])))) N (.inr (.inl (9, [.int 99, .int (-1), .ref y1, .null, .null])))) (1) (5)))))) : cT (2) sM_41 0 [(0, .ref 6), (1, .ref y1)] [] N G K := by
  intro d dc ds P hP
  refine w_mv (pc1 := 1) (st1 := [.ref 6]) rfl rfl rfl ?_
  refine w_mv (pc1 := 3) (st1 := [.int 94, .ref 6]) rfl rfl rfl ?_
  obtain ⟨b1b, i1_1, i1_2, g1, hh⟩ := hh
  refine w_call (M' := sM_32) (vals := [.ref 6, .int 94]) (rest := []) (lv' := [(0, .ref 6), (1, .int 94)]) rfl rfl rfl rfl rfl rfl (cH_rcv (by omega) (by omega) g1) rfl rfl rfl ?_
  refine w_mv (pc1 := 1) (st1 := [.ref 6]) rfl rfl rfl ?_
  refine cw_gf (v := .int i1_2) (pc1 := 4) rfl (by omega) (by omega) g1 rfl rfl ?_
  refine w_mv (pc1 := 5) (st1 := [.ref 6, .int i1_2]) rfl rfl rfl ?_
  refine cw_gf (v := .int i1_1) (pc1 := 8) rfl (by omega) (by omega) g1 rfl rfl ?_
  by_cases h2 : i1_1.toInt ≤ i1_2.toInt
  ·
    replace hh := hh.1 h2
    refine w_ige_T (pc1 := 24) rfl rfl (show i1_1.toInt ≤ i1_2.toInt from h2) ?_
    refine w_mv (pc1 := 25) (st1 := [.int 0]) rfl rfl rfl ?_
    refine w_iret (pc1 := 6) rfl rfl rfl rfl ?_
    refine w_mv (pc1 := 9) (st1 := []) rfl rfl rfl ?_
    obtain ⟨q3a, hh⟩ := hh
    refine cw_new (k := 5) (c1 := .inr (.inl (9, [.int 0, .int 0, .null, .null, .null]))) (pc1 := 12) rfl rfl rfl rfl ?_
    have g4 : (va_up G N (.inr (.inl (9, [.int 0, .int 0, .null, .null, .null])))) 6 = .inr (.inl (1, [.ref 7, .int i1_1, .int i1_2])) := (va_ne (by omega)).trans g1
    have g5 : (va_up G N (.inr (.inl (9, [.int 0, .int 0, .null, .null, .null])))) N = .inr (.inl (9, [.int 0, .int 0, .null, .null, .null])) := up_eq
    refine w_mv (pc1 := 13) (st1 := [.ref N, .ref N]) rfl rfl rfl ?_
    refine w_mv (pc1 := 15) (st1 := [.int 99, .ref N, .ref N]) rfl rfl rfl ?_
    refine w_mv (pc1 := 16) (st1 := [.int (-1), .int 99, .ref N, .ref N]) rfl rfl rfl ?_
    refine w_mv (pc1 := 17) (st1 := [.ref y1, .int (-1), .int 99, .ref N, .ref N]) rfl rfl rfl ?_
    refine w_mv (pc1 := 18) (st1 := [.null, .ref y1, .int (-1), .int 99, .ref N, .ref N]) rfl rfl rfl ?_
    refine w_mv (pc1 := 19) (st1 := [.null, .null, .ref y1, .int (-1), .int 99, .ref N, .ref N]) rfl rfl rfl ?_
    refine w_call (M' := sM_38) (vals := [.ref N, .int 99, .int (-1), .ref y1, .null, .null]) (rest := [.ref N]) (lv' := [(0, .ref N), (1, .int 99), (2, .int (-1)), (3, .ref y1), (4, .null), (5, .null)]) rfl rfl rfl rfl rfl rfl rfl rfl rfl rfl ?_
    refine w_mv (pc1 := 1) (st1 := [.ref N]) rfl rfl rfl ?_
    refine w_obj (pc1 := 4) (st1 := []) rfl rfl rfl ⟨by omega, Nat.le_of_ble_eq_true rfl⟩ rfl ?_
    refine w_mv (pc1 := 5) (st1 := [.ref N]) rfl rfl rfl ?_
    refine w_mv (pc1 := 6) (st1 := [.int 99, .ref N]) rfl rfl rfl ?_
    refine cw_pf (c1 := .inr (.inl (9, [.int 99, .int 0, .null, .null, .null]))) (pc1 := 9) rfl (by omega) (by omega) g5 rfl rfl rfl rfl ?_
    have g6 : (va_up (va_up G N (.inr (.inl (9, [.int 0, .int 0, .null, .null, .null])))) N (.inr (.inl (9, [.int 99, .int 0, .null, .null, .null])))) 6 = .inr (.inl (1, [.ref 7, .int i1_1, .int i1_2])) := (va_ne (ne_ob g4 g5 (by decide))).trans g4
    have g7 : (va_up (va_up G N (.inr (.inl (9, [.int 0, .int 0, .null, .null, .null])))) N (.inr (.inl (9, [.int 99, .int 0, .null, .null, .null])))) N = .inr (.inl (9, [.int 99, .int 0, .null, .null, .null])) := up_eq
    refine w_mv (pc1 := 10) (st1 := [.ref N]) rfl rfl rfl ?_
    refine w_mv (pc1 := 11) (st1 := [.int (-1), .ref N]) rfl rfl rfl ?_
    refine cw_pf (c1 := .inr (.inl (9, [.int 99, .int (-1), .null, .null, .null]))) (pc1 := 14) rfl (by omega) (by omega) g7 rfl rfl rfl rfl ?_
    rw [va_uu]
    have g8 : (va_up (va_up G N (.inr (.inl (9, [.int 0, .int 0, .null, .null, .null])))) N (.inr (.inl (9, [.int 99, .int (-1), .null, .null, .null])))) 6 = .inr (.inl (1, [.ref 7, .int i1_1, .int i1_2])) := (va_ne (ne_ob g6 g7 (by decide))).trans ((va_ne (ne_ob g6 g7 (by decide))).symm.trans g6)
    have g9 : (va_up (va_up G N (.inr (.inl (9, [.int 0, .int 0, .null, .null, .null])))) N (.inr (.inl (9, [.int 99, .int (-1), .null, .null, .null])))) N = .inr (.inl (9, [.int 99, .int (-1), .null, .null, .null])) := up_eq
    refine w_mv (pc1 := 15) (st1 := [.ref N]) rfl rfl rfl ?_
    refine w_mv (pc1 := 16) (st1 := [.ref y1, .ref N]) rfl rfl rfl ?_
    refine cw_pf (c1 := .inr (.inl (9, [.int 99, .int (-1), .ref y1, .null, .null]))) (pc1 := 19) rfl (by omega) (by omega) g9 rfl rfl rfl rfl ?_
    rw [va_uu]
    have g10 : (va_up (va_up G N (.inr (.inl (9, [.int 0, .int 0, .null, .null, .null])))) N (.inr (.inl (9, [.int 99, .int (-1), .ref y1, .null, .null])))) 6 = .inr (.inl (1, [.ref 7, .int i1_1, .int i1_2])) := (va_ne (ne_ob g8 g9 (by decide))).trans ((va_ne (ne_ob g8 g9 (by decide))).symm.trans g8)
    have g11 : (va_up (va_up G N (.inr (.inl (9, [.int 0, .int 0, .null, .null, .null])))) N (.inr (.inl (9, [.int 99, .int (-1), .ref y1, .null, .null])))) N = .inr (.inl (9, [.int 99, .int (-1), .ref y1, .null, .null])) := up_eq
    refine w_mv (pc1 := 20) (st1 := [.ref N]) rfl rfl rfl ?_
    refine w_mv (pc1 := 22) (st1 := [.null, .ref N]) rfl rfl rfl ?_
    refine cw_pf (c1 := .inr (.inl (9, [.int 99, .int (-1), .ref y1, .null, .null]))) (pc1 := 25) rfl (by omega) (by omega) g11 rfl rfl rfl rfl ?_
    rw [va_uu]
    have g12 : (va_up (va_up G N (.inr (.inl (9, [.int 0, .int 0, .null, .null, .null])))) N (.inr (.inl (9, [.int 99, .int (-1), .ref y1, .null, .null])))) 6 = .inr (.inl (1, [.ref 7, .int i1_1, .int i1_2])) := (va_ne (ne_ob g10 g11 (by decide))).trans ((va_ne (ne_ob g10 g11 (by decide))).symm.trans g10)
    have g13 : (va_up (va_up G N (.inr (.inl (9, [.int 0, .int 0, .null, .null, .null])))) N (.inr (.inl (9, [.int 99, .int (-1), .ref y1, .null, .null])))) N = .inr (.inl (9, [.int 99, .int (-1), .ref y1, .null, .null])) := up_eq
    refine w_mv (pc1 := 26) (st1 := [.ref N]) rfl rfl rfl ?_
    refine w_mv (pc1 := 28) (st1 := [.null, .ref N]) rfl rfl rfl ?_
    refine cw_pf (c1 := .inr (.inl (9, [.int 99, .int (-1), .ref y1, .null, .null]))) (pc1 := 31) rfl (by omega) (by omega) g13 rfl rfl rfl rfl ?_
    rw [va_uu]
    have g14 : (va_up (va_up G N (.inr (.inl (9, [.int 0, .int 0, .null, .null, .null])))) N (.inr (.inl (9, [.int 99, .int (-1), .ref y1, .null, .null])))) 6 = .inr (.inl (1, [.ref 7, .int i1_1, .int i1_2])) := (va_ne (ne_ob g12 g13 (by decide))).trans ((va_ne (ne_ob g12 g13 (by decide))).symm.trans g12)
    have g15 : (va_up (va_up G N (.inr (.inl (9, [.int 0, .int 0, .null, .null, .null])))) N (.inr (.inl (9, [.int 99, .int (-1), .ref y1, .null, .null])))) N = .inr (.inl (9, [.int 99, .int (-1), .ref y1, .null, .null])) := up_eq
    refine w_vret (pc1 := 22) rfl rfl rfl ?_
    refine sx_wp.stop rfl rfl rfl ?_
    exact c_acc (hP _ _ _ _ _ hh) (by omega) (by omega)
  ·
    replace hh := hh.2 (Int.not_le.mp h2)
    refine w_ige_F (pc1 := 11) rfl (by decide) rfl (show i1_2.toInt < i1_1.toInt from (Int.not_le.mp h2)) ?_
    refine w_mv (pc1 := 12) (st1 := [.ref 6]) rfl rfl rfl ?_
    refine cw_gf (v := .ref 7) (pc1 := 15) rfl (by omega) (by omega) g1 rfl rfl ?_
    refine w_mv (pc1 := 16) (st1 := [.ref 6, .ref 7]) rfl rfl rfl ?_
    refine cw_gf (v := .int i1_2) (pc1 := 19) rfl (by omega) (by omega) g1 rfl rfl ?_
    obtain ⟨b16b, f16, g16, hh⟩ := hh
    obtain ⟨q17a, q17b, hh⟩ := hh
    refine cw_bld (pc1 := 20) rfl (by omega) g16 q17a q17b rfl ?_
    refine w_mv (pc1 := 21) (st1 := [.int 94, .int (f16 i1_2.toNatClampNeg)]) rfl rfl rfl ?_
    by_cases h18 : (f16 i1_2.toNatClampNeg).toInt = 94
    ·
      replace hh := hh.1 h18
      refine w_ieq_T (pc1 := 26) rfl rfl (show (f16 i1_2.toNatClampNeg).toInt = 94 from h18) ?_
      refine w_mv (pc1 := 27) (st1 := [.ref 6]) rfl rfl rfl ?_
      refine w_mv (pc1 := 28) (st1 := [.ref 6, .ref 6]) rfl rfl rfl ?_
      refine cw_gf (v := .int i1_2) (pc1 := 31) rfl (by omega) (by omega) g1 rfl rfl ?_
      refine w_mv (pc1 := 32) (st1 := [.int 1, .int i1_2, .ref 6]) rfl rfl rfl ?_
      refine w_mv (pc1 := 33) (st1 := [.int (i1_2 + 1), .ref 6]) rfl rfl rfl ?_
      refine cw_pf (c1 := .inr (.inl (1, [.ref 7, .int i1_1, .int (i1_2 + 1)]))) (pc1 := 36) rfl (by omega) (by omega) g1 rfl rfl rfl rfl ?_
      have g19 : (va_up G 6 (.inr (.inl (1, [.ref 7, .int i1_1, .int (i1_2 + 1)])))) 7 = .inl (1, (48, .inl f16)) := (va_ne (ne_ao g16 g1)).trans g16
      have g20 : (va_up G 6 (.inr (.inl (1, [.ref 7, .int i1_1, .int (i1_2 + 1)])))) 6 = .inr (.inl (1, [.ref 7, .int i1_1, .int (i1_2 + 1)])) := up_eq
      refine w_mv (pc1 := 37) (st1 := [.int 1]) rfl rfl rfl ?_
      refine w_iret (pc1 := 6) rfl rfl rfl rfl ?_
      refine w_mv (pc1 := 23) (st1 := []) rfl rfl rfl ?_
      refine w_mv (pc1 := 24) (st1 := [.ref 6]) rfl rfl rfl ?_
      refine w_call (M' := sM_26) (vals := [.ref 6]) (rest := []) (lv' := [(0, .ref 6)]) rfl rfl rfl rfl rfl rfl (cH_rcv (by omega) (by omega) g20) rfl rfl rfl ?_
      refine w_mv (pc1 := 1) (st1 := [.ref 6]) rfl rfl rfl ?_
      refine cw_gf (v := .int (i1_2 + 1)) (pc1 := 4) rfl (by omega) (by omega) g20 rfl rfl ?_
      refine w_mv (pc1 := 5) (st1 := [.ref 6, .int (i1_2 + 1)]) rfl rfl rfl ?_
      refine cw_gf (v := .int i1_1) (pc1 := 8) rfl (by omega) (by omega) g20 rfl rfl ?_
      by_cases h21 : i1_1.toInt ≤ (i1_2 + 1).toInt
      ·
        replace hh := hh.1 h21
        refine w_ige_T (pc1 := 23) rfl rfl (show i1_1.toInt ≤ (i1_2 + 1).toInt from h21) ?_
        refine w_mv (pc1 := 24) (st1 := [.int 0]) rfl rfl rfl ?_
        refine w_iret (pc1 := 27) rfl rfl rfl rfl ?_
        refine w_mv (pc1 := 29) (st1 := [.int 48, .int 0]) rfl rfl rfl ?_
        refine w_mv (pc1 := 30) (st1 := [.int (-48)]) rfl rfl rfl ?_
        refine w_mv (pc1 := 31) (lv1 := [(2, .int (-48)), (0, .ref 6), (1, .ref y1)]) (st1 := []) rfl rfl rfl ?_
        refine w_mv (pc1 := 32) (st1 := [.int (-48)]) rfl rfl rfl ?_
        refine w_mv (pc1 := 40) (st1 := []) rfl rfl rfl ?_
        refine w_mv (pc1 := 41) (st1 := [.null]) rfl rfl rfl ?_
        refine sx_wp.stop rfl rfl rfl ?_
        exact c_acc (hP _ _ _ _ _ hh) (by omega) (by omega)
      ·
        replace hh := hh.2 (Int.not_le.mp h21)
        refine w_ige_F (pc1 := 11) rfl (by decide) rfl (show (i1_2 + 1).toInt < i1_1.toInt from (Int.not_le.mp h21)) ?_
        refine w_mv (pc1 := 12) (st1 := [.ref 6]) rfl rfl rfl ?_
        refine cw_gf (v := .ref 7) (pc1 := 15) rfl (by omega) (by omega) g20 rfl rfl ?_
        refine w_mv (pc1 := 16) (st1 := [.ref 6, .ref 7]) rfl rfl rfl ?_
        refine cw_gf (v := .int (i1_2 + 1)) (pc1 := 19) rfl (by omega) (by omega) g20 rfl rfl ?_
        obtain ⟨q22a, q22b, hh⟩ := hh
        refine cw_bld (pc1 := 20) rfl (by omega) g19 q22a q22b rfl ?_
        refine w_mv (pc1 := 24) (st1 := [.int (f16 (i1_2 + 1).toNatClampNeg)]) rfl rfl rfl ?_
        refine w_iret (pc1 := 27) rfl rfl rfl rfl ?_
        refine w_mv (pc1 := 29) (st1 := [.int 48, .int (f16 (i1_2 + 1).toNatClampNeg)]) rfl rfl rfl ?_
        refine w_mv (pc1 := 30) (st1 := [.int ((f16 (i1_2 + 1).toNatClampNeg) - 48)]) rfl rfl rfl ?_
        refine w_mv (pc1 := 31) (lv1 := [(2, .int ((f16 (i1_2 + 1).toNatClampNeg) - 48)), (0, .ref 6), (1, .ref y1)]) (st1 := []) rfl rfl rfl ?_
        refine w_mv (pc1 := 32) (st1 := [.int ((f16 (i1_2 + 1).toNatClampNeg) - 48)]) rfl rfl rfl ?_
        by_cases h23 : ((f16 (i1_2 + 1).toNatClampNeg) - 48).toInt < 0
        ·
          replace hh := hh.1 h23
          refine w_zlt_T (pc1 := 40) rfl rfl (show ((f16 (i1_2 + 1).toNatClampNeg) - 48).toInt < 0 from h23) ?_
          refine w_mv (pc1 := 41) (st1 := [.null]) rfl rfl rfl ?_
          refine sx_wp.stop rfl rfl rfl ?_
          exact c_acc (hP _ _ _ _ _ hh) (by omega) (by omega)
        ·
          replace hh := hh.2 (Int.not_lt.mp h23)
          refine w_zlt_F (pc1 := 35) rfl (by decide) rfl (show 0 ≤ ((f16 (i1_2 + 1).toNatClampNeg) - 48).toInt from (Int.not_lt.mp h23)) ?_
          refine w_mv (pc1 := 36) (st1 := [.int ((f16 (i1_2 + 1).toNatClampNeg) - 48)]) rfl rfl rfl ?_
          refine w_mv (pc1 := 37) (st1 := [.int 4, .int ((f16 (i1_2 + 1).toNatClampNeg) - 48)]) rfl rfl rfl ?_
          by_cases h24 : ((f16 (i1_2 + 1).toNatClampNeg) - 48).toInt < 4
          ·
            replace hh := hh.1 h24
            refine w_ilt_T (pc1 := 42) rfl rfl (show ((f16 (i1_2 + 1).toNatClampNeg) - 48).toInt < 4 from h24) ?_
            refine w_mv (pc1 := 43) (st1 := [.ref 6]) rfl rfl rfl ?_
            refine w_mv (pc1 := 44) (st1 := [.ref 6, .ref 6]) rfl rfl rfl ?_
            refine cw_gf (v := .int (i1_2 + 1)) (pc1 := 47) rfl (by omega) (by omega) g20 rfl rfl ?_
            refine w_mv (pc1 := 48) (st1 := [.int 1, .int (i1_2 + 1), .ref 6]) rfl rfl rfl ?_
            refine w_mv (pc1 := 49) (st1 := [.int (i1_2 + 1 + 1), .ref 6]) rfl rfl rfl ?_
            refine cw_pf (c1 := .inr (.inl (1, [.ref 7, .int i1_1, .int (i1_2 + 1 + 1)]))) (pc1 := 52) rfl (by omega) (by omega) g20 rfl rfl rfl rfl ?_
            rw [va_uu]
            have g25 : (va_up G 6 (.inr (.inl (1, [.ref 7, .int i1_1, .int (i1_2 + 1 + 1)])))) 7 = .inl (1, (48, .inl f16)) := (va_ne (ne_ao g19 g20)).trans ((va_ne (ne_ao g19 g20)).symm.trans g19)
            have g26 : (va_up G 6 (.inr (.inl (1, [.ref 7, .int i1_1, .int (i1_2 + 1 + 1)])))) 6 = .inr (.inl (1, [.ref 7, .int i1_1, .int (i1_2 + 1 + 1)])) := up_eq
            obtain ⟨q27a, hh⟩ := hh
            refine cw_new (k := 5) (c1 := .inr (.inl (9, [.int 0, .int 0, .null, .null, .null]))) (pc1 := 55) rfl rfl rfl rfl ?_
            have g28 : (va_up (va_up G 6 (.inr (.inl (1, [.ref 7, .int i1_1, .int (i1_2 + 1 + 1)])))) N (.inr (.inl (9, [.int 0, .int 0, .null, .null, .null])))) 7 = .inl (1, (48, .inl f16)) := (va_ne (by omega)).trans g25
            have g29 : (va_up (va_up G 6 (.inr (.inl (1, [.ref 7, .int i1_1, .int (i1_2 + 1 + 1)])))) N (.inr (.inl (9, [.int 0, .int 0, .null, .null, .null])))) 6 = .inr (.inl (1, [.ref 7, .int i1_1, .int (i1_2 + 1 + 1)])) := (va_ne (by omega)).trans g26
            have g30 : (va_up (va_up G 6 (.inr (.inl (1, [.ref 7, .int i1_1, .int (i1_2 + 1 + 1)])))) N (.inr (.inl (9, [.int 0, .int 0, .null, .null, .null])))) N = .inr (.inl (9, [.int 0, .int 0, .null, .null, .null])) := up_eq
            refine w_mv (pc1 := 56) (st1 := [.ref N, .ref N]) rfl rfl rfl ?_
            refine w_mv (pc1 := 58) (st1 := [.int 99, .ref N, .ref N]) rfl rfl rfl ?_
            refine w_mv (pc1 := 59) (st1 := [.int ((f16 (i1_2 + 1).toNatClampNeg) - 48), .int 99, .ref N, .ref N]) rfl rfl rfl ?_
            refine w_mv (pc1 := 60) (st1 := [.ref y1, .int ((f16 (i1_2 + 1).toNatClampNeg) - 48), .int 99, .ref N, .ref N]) rfl rfl rfl ?_
            refine w_mv (pc1 := 61) (st1 := [.null, .ref y1, .int ((f16 (i1_2 + 1).toNatClampNeg) - 48), .int 99, .ref N, .ref N]) rfl rfl rfl ?_
            refine w_mv (pc1 := 62) (st1 := [.null, .null, .ref y1, .int ((f16 (i1_2 + 1).toNatClampNeg) - 48), .int 99, .ref N, .ref N]) rfl rfl rfl ?_
            refine w_call (M' := sM_38) (vals := [.ref N, .int 99, .int ((f16 (i1_2 + 1).toNatClampNeg) - 48), .ref y1, .null, .null]) (rest := [.ref N]) (lv' := [(0, .ref N), (1, .int 99), (2, .int ((f16 (i1_2 + 1).toNatClampNeg) - 48)), (3, .ref y1), (4, .null), (5, .null)]) rfl rfl rfl rfl rfl rfl rfl rfl rfl rfl ?_
            refine w_mv (pc1 := 1) (st1 := [.ref N]) rfl rfl rfl ?_
            refine w_obj (pc1 := 4) (st1 := []) rfl rfl rfl ⟨by omega, Nat.le_of_ble_eq_true rfl⟩ rfl ?_
            refine w_mv (pc1 := 5) (st1 := [.ref N]) rfl rfl rfl ?_
            refine w_mv (pc1 := 6) (st1 := [.int 99, .ref N]) rfl rfl rfl ?_
            refine cw_pf (c1 := .inr (.inl (9, [.int 99, .int 0, .null, .null, .null]))) (pc1 := 9) rfl (by omega) (by omega) g30 rfl rfl rfl rfl ?_
            have g31 : (va_up (va_up (va_up G 6 (.inr (.inl (1, [.ref 7, .int i1_1, .int (i1_2 + 1 + 1)])))) N (.inr (.inl (9, [.int 0, .int 0, .null, .null, .null])))) N (.inr (.inl (9, [.int 99, .int 0, .null, .null, .null])))) 7 = .inl (1, (48, .inl f16)) := (va_ne (ne_ao g28 g30)).trans g28
            have g32 : (va_up (va_up (va_up G 6 (.inr (.inl (1, [.ref 7, .int i1_1, .int (i1_2 + 1 + 1)])))) N (.inr (.inl (9, [.int 0, .int 0, .null, .null, .null])))) N (.inr (.inl (9, [.int 99, .int 0, .null, .null, .null])))) 6 = .inr (.inl (1, [.ref 7, .int i1_1, .int (i1_2 + 1 + 1)])) := (va_ne (ne_ob g29 g30 (by decide))).trans g29
            have g33 : (va_up (va_up (va_up G 6 (.inr (.inl (1, [.ref 7, .int i1_1, .int (i1_2 + 1 + 1)])))) N (.inr (.inl (9, [.int 0, .int 0, .null, .null, .null])))) N (.inr (.inl (9, [.int 99, .int 0, .null, .null, .null])))) N = .inr (.inl (9, [.int 99, .int 0, .null, .null, .null])) := up_eq
            refine w_mv (pc1 := 10) (st1 := [.ref N]) rfl rfl rfl ?_
            refine w_mv (pc1 := 11) (st1 := [.int ((f16 (i1_2 + 1).toNatClampNeg) - 48), .ref N]) rfl rfl rfl ?_
            refine cw_pf (c1 := .inr (.inl (9, [.int 99, .int ((f16 (i1_2 + 1).toNatClampNeg) - 48), .null, .null, .null]))) (pc1 := 14) rfl (by omega) (by omega) g33 rfl rfl rfl rfl ?_
            rw [va_uu]
            have g34 : (va_up (va_up (va_up G 6 (.inr (.inl (1, [.ref 7, .int i1_1, .int (i1_2 + 1 + 1)])))) N (.inr (.inl (9, [.int 0, .int 0, .null, .null, .null])))) N (.inr (.inl (9, [.int 99, .int ((f16 (i1_2 + 1).toNatClampNeg) - 48), .null, .null, .null])))) 7 = .inl (1, (48, .inl f16)) := (va_ne (ne_ao g31 g33)).trans ((va_ne (ne_ao g31 g33)).symm.trans g31)
            have g35 : (va_up (va_up (va_up G 6 (.inr (.inl (1, [.ref 7, .int i1_1, .int (i1_2 + 1 + 1)])))) N (.inr (.inl (9, [.int 0, .int 0, .null, .null, .null])))) N (.inr (.inl (9, [.int 99, .int ((f16 (i1_2 + 1).toNatClampNeg) - 48), .null, .null, .null])))) 6 = .inr (.inl (1, [.ref 7, .int i1_1, .int (i1_2 + 1 + 1)])) := (va_ne (ne_ob g32 g33 (by decide))).trans ((va_ne (ne_ob g32 g33 (by decide))).symm.trans g32)
            have g36 : (va_up (va_up (va_up G 6 (.inr (.inl (1, [.ref 7, .int i1_1, .int (i1_2 + 1 + 1)])))) N (.inr (.inl (9, [.int 0, .int 0, .null, .null, .null])))) N (.inr (.inl (9, [.int 99, .int ((f16 (i1_2 + 1).toNatClampNeg) - 48), .null, .null, .null])))) N = .inr (.inl (9, [.int 99, .int ((f16 (i1_2 + 1).toNatClampNeg) - 48), .null, .null, .null])) := up_eq
            refine w_mv (pc1 := 15) (st1 := [.ref N]) rfl rfl rfl ?_
            refine w_mv (pc1 := 16) (st1 := [.ref y1, .ref N]) rfl rfl rfl ?_
            refine cw_pf (c1 := .inr (.inl (9, [.int 99, .int ((f16 (i1_2 + 1).toNatClampNeg) - 48), .ref y1, .null, .null]))) (pc1 := 19) rfl (by omega) (by omega) g36 rfl rfl rfl rfl ?_
            rw [va_uu]
            have g37 : (va_up (va_up (va_up G 6 (.inr (.inl (1, [.ref 7, .int i1_1, .int (i1_2 + 1 + 1)])))) N (.inr (.inl (9, [.int 0, .int 0, .null, .null, .null])))) N (.inr (.inl (9, [.int 99, .int ((f16 (i1_2 + 1).toNatClampNeg) - 48), .ref y1, .null, .null])))) 7 = .inl (1, (48, .inl f16)) := (va_ne (ne_ao g34 g36)).trans ((va_ne (ne_ao g34 g36)).symm.trans g34)
            have g38 : (va_up (va_up (va_up G 6 (.inr (.inl (1, [.ref 7, .int i1_1, .int (i1_2 + 1 + 1)])))) N (.inr (.inl (9, [.int 0, .int 0, .null, .null, .null])))) N (.inr (.inl (9, [.int 99, .int ((f16 (i1_2 + 1).toNatClampNeg) - 48), .ref y1, .null, .null])))) 6 = .inr (.inl (1, [.ref 7, .int i1_1, .int (i1_2 + 1 + 1)])) := (va_ne (ne_ob g35 g36 (by decide))).trans ((va_ne (ne_ob g35 g36 (by decide))).symm.trans g35)
            have g39 : (va_up (va_up (va_up G 6 (.inr (.inl (1, [.ref 7, .int i1_1, .int (i1_2 + 1 + 1)])))) N (.inr (.inl (9, [.int 0, .int 0, .null, .null, .null])))) N (.inr (.inl (9, [.int 99, .int ((f16 (i1_2 + 1).toNatClampNeg) - 48), .ref y1, .null, .null])))) N = .inr (.inl (9, [.int 99, .int ((f16 (i1_2 + 1).toNatClampNeg) - 48), .ref y1, .null, .null])) := up_eq
            refine w_mv (pc1 := 20) (st1 := [.ref N]) rfl rfl rfl ?_
            refine w_mv (pc1 := 22) (st1 := [.null, .ref N]) rfl rfl rfl ?_
            refine cw_pf (c1 := .inr (.inl (9, [.int 99, .int ((f16 (i1_2 + 1).toNatClampNeg) - 48), .ref y1, .null, .null]))) (pc1 := 25) rfl (by omega) (by omega) g39 rfl rfl rfl rfl ?_
            rw [va_uu]
            have g40 : (va_up (va_up (va_up G 6 (.inr (.inl (1, [.ref 7, .int i1_1, .int (i1_2 + 1 + 1)])))) N (.inr (.inl (9, [.int 0, .int 0, .null, .null, .null])))) N (.inr (.inl (9, [.int 99, .int ((f16 (i1_2 + 1).toNatClampNeg) - 48), .ref y1, .null, .null])))) 7 = .inl (1, (48, .inl f16)) := (va_ne (ne_ao g37 g39)).trans ((va_ne (ne_ao g37 g39)).symm.trans g37)
            have g41 : (va_up (va_up (va_up G 6 (.inr (.inl (1, [.ref 7, .int i1_1, .int (i1_2 + 1 + 1)])))) N (.inr (.inl (9, [.int 0, .int 0, .null, .null, .null])))) N (.inr (.inl (9, [.int 99, .int ((f16 (i1_2 + 1).toNatClampNeg) - 48), .ref y1, .null, .null])))) 6 = .inr (.inl (1, [.ref 7, .int i1_1, .int (i1_2 + 1 + 1)])) := (va_ne (ne_ob g38 g39 (by decide))).trans ((va_ne (ne_ob g38 g39 (by decide))).symm.trans g38)
            have g42 : (va_up (va_up (va_up G 6 (.inr (.inl (1, [.ref 7, .int i1_1, .int (i1_2 + 1 + 1)])))) N (.inr (.inl (9, [.int 0, .int 0, .null, .null, .null])))) N (.inr (.inl (9, [.int 99, .int ((f16 (i1_2 + 1).toNatClampNeg) - 48), .ref y1, .null, .null])))) N = .inr (.inl (9, [.int 99, .int ((f16 (i1_2 + 1).toNatClampNeg) - 48), .ref y1, .null, .null])) := up_eq
            refine w_mv (pc1 := 26) (st1 := [.ref N]) rfl rfl rfl ?_
            refine w_mv (pc1 := 28) (st1 := [.null, .ref N]) rfl rfl rfl ?_
            refine cw_pf (c1 := .inr (.inl (9, [.int 99, .int ((f16 (i1_2 + 1).toNatClampNeg) - 48), .ref y1, .null, .null]))) (pc1 := 31) rfl (by omega) (by omega) g42 rfl rfl rfl rfl ?_
            rw [va_uu]
            have g43 : (va_up (va_up (va_up G 6 (.inr (.inl (1, [.ref 7, .int i1_1, .int (i1_2 + 1 + 1)])))) N (.inr (.inl (9, [.int 0, .int 0, .null, .null, .null])))) N (.inr (.inl (9, [.int 99, .int ((f16 (i1_2 + 1).toNatClampNeg) - 48), .ref y1, .null, .null])))) 7 = .inl (1, (48, .inl f16)) := (va_ne (ne_ao g40 g42)).trans ((va_ne (ne_ao g40 g42)).symm.trans g40)
            have g44 : (va_up (va_up (va_up G 6 (.inr (.inl (1, [.ref 7, .int i1_1, .int (i1_2 + 1 + 1)])))) N (.inr (.inl (9, [.int 0, .int 0, .null, .null, .null])))) N (.inr (.inl (9, [.int 99, .int ((f16 (i1_2 + 1).toNatClampNeg) - 48), .ref y1, .null, .null])))) 6 = .inr (.inl (1, [.ref 7, .int i1_1, .int (i1_2 + 1 + 1)])) := (va_ne (ne_ob g41 g42 (by decide))).trans ((va_ne (ne_ob g41 g42 (by decide))).symm.trans g41)
            have g45 : (va_up (va_up (va_up G 6 (.inr (.inl (1, [.ref 7, .int i1_1, .int (i1_2 + 1 + 1)])))) N (.inr (.inl (9, [.int 0, .int 0, .null, .null, .null])))) N (.inr (.inl (9, [.int 99, .int ((f16 (i1_2 + 1).toNatClampNeg) - 48), .ref y1, .null, .null])))) N = .inr (.inl (9, [.int 99, .int ((f16 (i1_2 + 1).toNatClampNeg) - 48), .ref y1, .null, .null])) := up_eq
            refine w_vret (pc1 := 65) rfl rfl rfl ?_
            refine sx_wp.stop rfl rfl rfl ?_
            exact c_acc (hP _ _ _ _ _ hh) (by omega) (by omega)
          ·
            replace hh := hh.2 (Int.not_lt.mp h24)
            refine w_ilt_F (pc1 := 40) rfl (by decide) rfl (show 4 ≤ ((f16 (i1_2 + 1).toNatClampNeg) - 48).toInt from (Int.not_lt.mp h24)) ?_
            refine w_mv (pc1 := 41) (st1 := [.null]) rfl rfl rfl ?_
            refine sx_wp.stop rfl rfl rfl ?_
            exact c_acc (hP _ _ _ _ _ hh) (by omega) (by omega)
    ·
      replace hh := hh.2 h18
      refine w_ieq_F (pc1 := 24) rfl (by decide) rfl (show (f16 i1_2.toNatClampNeg).toInt ≠ 94 from h18) ?_
      refine w_mv (pc1 := 25) (st1 := [.int 0]) rfl rfl rfl ?_
      refine w_iret (pc1 := 6) rfl rfl rfl rfl ?_
      refine w_mv (pc1 := 9) (st1 := []) rfl rfl rfl ?_
      obtain ⟨q46a, hh⟩ := hh
      refine cw_new (k := 5) (c1 := .inr (.inl (9, [.int 0, .int 0, .null, .null, .null]))) (pc1 := 12) rfl rfl rfl rfl ?_
      have g47 : (va_up G N (.inr (.inl (9, [.int 0, .int 0, .null, .null, .null])))) 6 = .inr (.inl (1, [.ref 7, .int i1_1, .int i1_2])) := (va_ne (by omega)).trans g1
      have g48 : (va_up G N (.inr (.inl (9, [.int 0, .int 0, .null, .null, .null])))) 7 = .inl (1, (48, .inl f16)) := (va_ne (by omega)).trans g16
      have g49 : (va_up G N (.inr (.inl (9, [.int 0, .int 0, .null, .null, .null])))) N = .inr (.inl (9, [.int 0, .int 0, .null, .null, .null])) := up_eq
      refine w_mv (pc1 := 13) (st1 := [.ref N, .ref N]) rfl rfl rfl ?_
      refine w_mv (pc1 := 15) (st1 := [.int 99, .ref N, .ref N]) rfl rfl rfl ?_
      refine w_mv (pc1 := 16) (st1 := [.int (-1), .int 99, .ref N, .ref N]) rfl rfl rfl ?_
      refine w_mv (pc1 := 17) (st1 := [.ref y1, .int (-1), .int 99, .ref N, .ref N]) rfl rfl rfl ?_
      refine w_mv (pc1 := 18) (st1 := [.null, .ref y1, .int (-1), .int 99, .ref N, .ref N]) rfl rfl rfl ?_
      refine w_mv (pc1 := 19) (st1 := [.null, .null, .ref y1, .int (-1), .int 99, .ref N, .ref N]) rfl rfl rfl ?_
      refine w_call (M' := sM_38) (vals := [.ref N, .int 99, .int (-1), .ref y1, .null, .null]) (rest := [.ref N]) (lv' := [(0, .ref N), (1, .int 99), (2, .int (-1)), (3, .ref y1), (4, .null), (5, .null)]) rfl rfl rfl rfl rfl rfl rfl rfl rfl rfl ?_
      refine w_mv (pc1 := 1) (st1 := [.ref N]) rfl rfl rfl ?_
      refine w_obj (pc1 := 4) (st1 := []) rfl rfl rfl ⟨by omega, Nat.le_of_ble_eq_true rfl⟩ rfl ?_
      refine w_mv (pc1 := 5) (st1 := [.ref N]) rfl rfl rfl ?_
      refine w_mv (pc1 := 6) (st1 := [.int 99, .ref N]) rfl rfl rfl ?_
      refine cw_pf (c1 := .inr (.inl (9, [.int 99, .int 0, .null, .null, .null]))) (pc1 := 9) rfl (by omega) (by omega) g49 rfl rfl rfl rfl ?_
      have g50 : (va_up (va_up G N (.inr (.inl (9, [.int 0, .int 0, .null, .null, .null])))) N (.inr (.inl (9, [.int 99, .int 0, .null, .null, .null])))) 6 = .inr (.inl (1, [.ref 7, .int i1_1, .int i1_2])) := (va_ne (ne_ob g47 g49 (by decide))).trans g47
      have g51 : (va_up (va_up G N (.inr (.inl (9, [.int 0, .int 0, .null, .null, .null])))) N (.inr (.inl (9, [.int 99, .int 0, .null, .null, .null])))) 7 = .inl (1, (48, .inl f16)) := (va_ne (ne_ao g48 g49)).trans g48
      have g52 : (va_up (va_up G N (.inr (.inl (9, [.int 0, .int 0, .null, .null, .null])))) N (.inr (.inl (9, [.int 99, .int 0, .null, .null, .null])))) N = .inr (.inl (9, [.int 99, .int 0, .null, .null, .null])) := up_eq
      refine w_mv (pc1 := 10) (st1 := [.ref N]) rfl rfl rfl ?_
      refine w_mv (pc1 := 11) (st1 := [.int (-1), .ref N]) rfl rfl rfl ?_
      refine cw_pf (c1 := .inr (.inl (9, [.int 99, .int (-1), .null, .null, .null]))) (pc1 := 14) rfl (by omega) (by omega) g52 rfl rfl rfl rfl ?_
      rw [va_uu]
      have g53 : (va_up (va_up G N (.inr (.inl (9, [.int 0, .int 0, .null, .null, .null])))) N (.inr (.inl (9, [.int 99, .int (-1), .null, .null, .null])))) 6 = .inr (.inl (1, [.ref 7, .int i1_1, .int i1_2])) := (va_ne (ne_ob g50 g52 (by decide))).trans ((va_ne (ne_ob g50 g52 (by decide))).symm.trans g50)
      have g54 : (va_up (va_up G N (.inr (.inl (9, [.int 0, .int 0, .null, .null, .null])))) N (.inr (.inl (9, [.int 99, .int (-1), .null, .null, .null])))) 7 = .inl (1, (48, .inl f16)) := (va_ne (ne_ao g51 g52)).trans ((va_ne (ne_ao g51 g52)).symm.trans g51)
      have g55 : (va_up (va_up G N (.inr (.inl (9, [.int 0, .int 0, .null, .null, .null])))) N (.inr (.inl (9, [.int 99, .int (-1), .null, .null, .null])))) N = .inr (.inl (9, [.int 99, .int (-1), .null, .null, .null])) := up_eq
      refine w_mv (pc1 := 15) (st1 := [.ref N]) rfl rfl rfl ?_
      refine w_mv (pc1 := 16) (st1 := [.ref y1, .ref N]) rfl rfl rfl ?_
      refine cw_pf (c1 := .inr (.inl (9, [.int 99, .int (-1), .ref y1, .null, .null]))) (pc1 := 19) rfl (by omega) (by omega) g55 rfl rfl rfl rfl ?_
      rw [va_uu]
      have g56 : (va_up (va_up G N (.inr (.inl (9, [.int 0, .int 0, .null, .null, .null])))) N (.inr (.inl (9, [.int 99, .int (-1), .ref y1, .null, .null])))) 6 = .inr (.inl (1, [.ref 7, .int i1_1, .int i1_2])) := (va_ne (ne_ob g53 g55 (by decide))).trans ((va_ne (ne_ob g53 g55 (by decide))).symm.trans g53)
      have g57 : (va_up (va_up G N (.inr (.inl (9, [.int 0, .int 0, .null, .null, .null])))) N (.inr (.inl (9, [.int 99, .int (-1), .ref y1, .null, .null])))) 7 = .inl (1, (48, .inl f16)) := (va_ne (ne_ao g54 g55)).trans ((va_ne (ne_ao g54 g55)).symm.trans g54)
      have g58 : (va_up (va_up G N (.inr (.inl (9, [.int 0, .int 0, .null, .null, .null])))) N (.inr (.inl (9, [.int 99, .int (-1), .ref y1, .null, .null])))) N = .inr (.inl (9, [.int 99, .int (-1), .ref y1, .null, .null])) := up_eq
      refine w_mv (pc1 := 20) (st1 := [.ref N]) rfl rfl rfl ?_
      refine w_mv (pc1 := 22) (st1 := [.null, .ref N]) rfl rfl rfl ?_
      refine cw_pf (c1 := .inr (.inl (9, [.int 99, .int (-1), .ref y1, .null, .null]))) (pc1 := 25) rfl (by omega) (by omega) g58 rfl rfl rfl rfl ?_
      rw [va_uu]
      have g59 : (va_up (va_up G N (.inr (.inl (9, [.int 0, .int 0, .null, .null, .null])))) N (.inr (.inl (9, [.int 99, .int (-1), .ref y1, .null, .null])))) 6 = .inr (.inl (1, [.ref 7, .int i1_1, .int i1_2])) := (va_ne (ne_ob g56 g58 (by decide))).trans ((va_ne (ne_ob g56 g58 (by decide))).symm.trans g56)
      have g60 : (va_up (va_up G N (.inr (.inl (9, [.int 0, .int 0, .null, .null, .null])))) N (.inr (.inl (9, [.int 99, .int (-1), .ref y1, .null, .null])))) 7 = .inl (1, (48, .inl f16)) := (va_ne (ne_ao g57 g58)).trans ((va_ne (ne_ao g57 g58)).symm.trans g57)
      have g61 : (va_up (va_up G N (.inr (.inl (9, [.int 0, .int 0, .null, .null, .null])))) N (.inr (.inl (9, [.int 99, .int (-1), .ref y1, .null, .null])))) N = .inr (.inl (9, [.int 99, .int (-1), .ref y1, .null, .null])) := up_eq
      refine w_mv (pc1 := 26) (st1 := [.ref N]) rfl rfl rfl ?_
      refine w_mv (pc1 := 28) (st1 := [.null, .ref N]) rfl rfl rfl ?_
      refine cw_pf (c1 := .inr (.inl (9, [.int 99, .int (-1), .ref y1, .null, .null]))) (pc1 := 31) rfl (by omega) (by omega) g61 rfl rfl rfl rfl ?_
      rw [va_uu]
      have g62 : (va_up (va_up G N (.inr (.inl (9, [.int 0, .int 0, .null, .null, .null])))) N (.inr (.inl (9, [.int 99, .int (-1), .ref y1, .null, .null])))) 6 = .inr (.inl (1, [.ref 7, .int i1_1, .int i1_2])) := (va_ne (ne_ob g59 g61 (by decide))).trans ((va_ne (ne_ob g59 g61 (by decide))).symm.trans g59)
      have g63 : (va_up (va_up G N (.inr (.inl (9, [.int 0, .int 0, .null, .null, .null])))) N (.inr (.inl (9, [.int 99, .int (-1), .ref y1, .null, .null])))) 7 = .inl (1, (48, .inl f16)) := (va_ne (ne_ao g60 g61)).trans ((va_ne (ne_ao g60 g61)).symm.trans g60)
      have g64 : (va_up (va_up G N (.inr (.inl (9, [.int 0, .int 0, .null, .null, .null])))) N (.inr (.inl (9, [.int 99, .int (-1), .ref y1, .null, .null])))) N = .inr (.inl (9, [.int 99, .int (-1), .ref y1, .null, .null])) := up_eq
      refine w_vret (pc1 := 22) rfl rfl rfl ?_
      refine sx_wp.stop rfl rfl rfl ?_
      exact c_acc (hP _ _ _ _ _ hh) (by omega) (by omega)
set_option maxRecDepth 20000 in
set_option maxHeartbeats 4000000 in
theorem k_44_0 {p1 : Int32} {N : Nat} {G : Nat → sx_C} {K : Option Value ⊕ Nat → Nat → (Nat → sx_C) → Nat → Nat → Prop} (hh : ((p1.toInt < 0 → K (.inr (N)) (N + 1) (va_up G N (.inr (.inr 0))) (1) (6)) ∧ (0 ≤ p1.toInt → 5 < N ∧ ∃ (i2_1 : Int32), G 5 = .inr (.inl (0, [.ref 6, .int i2_1, .ref 8, .ref 9, .ref 31])) ∧ 8 < N ∧ ∃ (r3_0 : Nat) (i3_1 : Int32) (i3_2 : Int32), G 8 = .inr (.inl (13, [.ref r3_0, .int i3_1, .int i3_2])) ∧ ((p1.toInt < i3_1.toInt → cT (3) sM_175 0 [(0, .ref 8), (1, .int p1)] [] (N) G (fun r5 N5 G5 kc5 ks5 => ∃ o5 : Option Nat, r5 = .inl (some (va_rf o5)) ∧ K (.inl none) (N5) G5 (kc5) (ks5))) ∧ (i3_1.toInt ≤ p1.toInt → K (.inr (N)) (N + 1) (va_up G N (.inr (.inr 0))) (1) (6)))))) : cT (6) sM_44 0 [(0, .ref 5), (1, .int p1)] [] N G K := by
  intro d dc ds P hP
  refine w_mv (pc1 := 1) (st1 := [.int p1]) rfl rfl rfl ?_
  by_cases h1 : p1.toInt < 0
  ·
    replace hh := hh.1 h1
    refine w_zlt_T (pc1 := 15) rfl rfl (show p1.toInt < 0 from h1) ?_
    refine cw_thr rfl rfl (by omega) (Nat.le_of_ble_eq_true rfl) ?_
    exact c_acc (hP _ _ _ _ _ hh) (by omega) (by omega)
  ·
    replace hh := hh.2 (Int.not_lt.mp h1)
    refine w_zlt_F (pc1 := 4) rfl (by decide) rfl (show 0 ≤ p1.toInt from (Int.not_lt.mp h1)) ?_
    refine w_mv (pc1 := 5) (st1 := [.int p1]) rfl rfl rfl ?_
    refine w_mv (pc1 := 6) (st1 := [.ref 5, .int p1]) rfl rfl rfl ?_
    obtain ⟨b2b, i2_1, g2, hh⟩ := hh
    refine cw_gf (v := .ref 8) (pc1 := 9) rfl (by omega) (by omega) g2 rfl rfl ?_
    obtain ⟨b3b, r3_0, i3_1, i3_2, g3, hh⟩ := hh
    refine w_call (M' := sM_165) (vals := [.ref 8]) (rest := [.int p1]) (lv' := [(0, .ref 8)]) rfl rfl rfl rfl rfl rfl (cH_rcv (by omega) (by omega) g3) rfl rfl rfl ?_
    refine w_mv (pc1 := 1) (st1 := [.ref 8]) rfl rfl rfl ?_
    refine cw_gf (v := .int i3_1) (pc1 := 4) rfl (by omega) (by omega) g3 rfl rfl ?_
    refine w_iret (pc1 := 12) rfl rfl rfl rfl ?_
    by_cases h4 : p1.toInt < i3_1.toInt
    ·
      replace hh := hh.1 h4
      refine w_ilt_T (pc1 := 23) rfl rfl (show p1.toInt < i3_1.toInt from h4) ?_
      refine w_mv (pc1 := 24) (st1 := [.ref 5]) rfl rfl rfl ?_
      refine cw_gf (v := .ref 8) (pc1 := 27) rfl (by omega) (by omega) g2 rfl rfl ?_
      refine w_mv (pc1 := 28) (st1 := [.int p1, .ref 8]) rfl rfl rfl ?_
      refine w_call (M' := sM_175) (vals := [.ref 8, .int p1]) (rest := []) (lv' := [(0, .ref 8), (1, .int p1)]) rfl rfl rfl rfl rfl rfl (cH_rcv (by omega) (by omega) g3) rfl rfl rfl ?_
      refine hh _ _ _ _ (fun r5 N5 G5 kc5 ks5 hh => ?_)
      obtain ⟨o5, er5, hh⟩ := hh
      subst er5
      refine w_kr (pc1 := 31) rfl ?_
      refine w_mv (pc1 := 32) (lv1 := [(0, .ref 5), (1, .int p1)]) (st1 := []) rfl rfl (by cases o5 <;> rfl) ?_
      refine sx_wp.stop rfl rfl rfl ?_
      exact c_acc (hP _ _ _ _ _ hh) (by omega) (by omega)
    ·
      replace hh := hh.2 (Int.not_lt.mp h4)
      refine w_ilt_F (pc1 := 15) rfl (by decide) rfl (show i3_1.toInt ≤ p1.toInt from (Int.not_lt.mp h4)) ?_
      refine cw_thr rfl rfl (by omega) (Nat.le_of_ble_eq_true rfl) ?_
      exact c_acc (hP _ _ _ _ _ hh) (by omega) (by omega)
set_option maxRecDepth 20000 in
set_option maxHeartbeats 4000000 in
theorem k_46_0  {N : Nat} {G : Nat → sx_C} {K : Option Value ⊕ Nat → Nat → (Nat → sx_C) → Nat → Nat → Prop} (hh : 5 < N ∧ ∃ (i1_1 : Int32), G 5 = .inr (.inl (0, [.ref 6, .int i1_1, .ref 8, .ref 9, .ref 31])) ∧ 6 < N ∧ ∃ (i2_1 : Int32) (i2_2 : Int32), G 6 = .inr (.inl (1, [.ref 7, .int i2_1, .int i2_2])) ∧ cT (64) sM_47 0 [(0, .ref 6)] [] (N) G (fun r3 N3 G3 kc3 ks3 => ∃ o3 : Option Nat, r3 = .inl (some (va_rf o3)) ∧ 5 < N3 ∧ ∃ (i4_1 : Int32), G3 5 = .inr (.inl (0, [.ref 6, .int i4_1, .ref 8, .ref 9, .ref 31])) ∧ 6 < N3 ∧ ∃ (i5_1 : Int32) (i5_2 : Int32), G3 6 = .inr (.inl (1, [.ref 7, .int i5_1, .int i5_2])) ∧ ((o3 = none → K (.inr (N3)) (N3 + 1) (va_up (va_up (va_up G3 6 (.inr (.inl (1, [.ref 7, .int 0, .int i5_2])))) 5 (.inr (.inl (0, [.ref 6, .int i5_2, .ref 8, .ref 9, .ref 31])))) N3 (.inr (.inr 0))) (kc3 + 1) (ks3 + 6)) ∧ (∀ x8, o3 = some x8 → 9 < N3 ∧ ∃ (i11_5 : Int32) (i11_6 : Int32) (i11_7 : Int32), (va_up G3 6 (.inr (.inl (1, [.ref 7, .int 0, .int i5_2])))) 9 = .inr (.inl (2, [.ref 10, .ref 17, .ref 18, .ref 20, .ref 22, .int i11_5, .int i11_6, .int i11_7])) ∧ cT (62) sM_48 0 [(0, .ref 9), (1, .ref x8)] [] (N3) (va_up G3 6 (.inr (.inl (1, [.ref 7, .int 0, .int i5_2])))) (fun r12 N12 G12 kc12 ks12 => r12 = .inl none ∧ 5 ≤ x8 ∧ x8 < N12 ∧ ∃ (r13_0 : Nat) (i13_1 : Int32) (i13_2 : Int32), G12 x8 = .inr (.inl (13, [.ref r13_0, .int i13_1, .int i13_2])) ∧ K (.inl (some (.int i13_1))) (N12) G12 (kc3 + kc12) (ks3 + ks12)))))) : cT (65) sM_46 0 [(0, .ref 5)] [] N G K := by
  intro d dc ds P hP
  refine w_mv (pc1 := 1) (st1 := [.ref 5]) rfl rfl rfl ?_
  obtain ⟨b1b, i1_1, g1, hh⟩ := hh
  refine cw_gf (v := .ref 6) (pc1 := 4) rfl (by omega) (by omega) g1 rfl rfl ?_
  obtain ⟨b2b, i2_1, i2_2, g2, hh⟩ := hh
  refine w_call (M' := sM_47) (vals := [.ref 6]) (rest := []) (lv' := [(0, .ref 6)]) rfl rfl rfl rfl rfl rfl (cH_rcv (by omega) (by omega) g2) rfl rfl rfl ?_
  refine hh _ _ _ _ (fun r3 N3 G3 kc3 ks3 hh => ?_)
  obtain ⟨o3, er3, hh⟩ := hh
  subst er3
  refine w_kr (pc1 := 7) rfl ?_
  refine w_mv (pc1 := 8) (lv1 := [(1, va_rf o3), (0, .ref 5)]) (st1 := []) rfl rfl (by cases o3 <;> rfl) ?_
  refine w_mv (pc1 := 9) (st1 := [.ref 5]) rfl rfl rfl ?_
  obtain ⟨b4b, i4_1, g4, hh⟩ := hh
  refine cw_gf (v := .ref 6) (pc1 := 12) rfl (by omega) (by omega) g4 rfl rfl ?_
  obtain ⟨b5b, i5_1, i5_2, g5, hh⟩ := hh
  refine w_call (M' := sM_24) (vals := [.ref 6]) (rest := []) (lv' := [(0, .ref 6)]) rfl rfl rfl rfl rfl rfl (cH_rcv (by omega) (by omega) g5) rfl rfl rfl ?_
  refine w_mv (pc1 := 1) (st1 := [.ref 6]) rfl rfl rfl ?_
  refine w_mv (pc1 := 2) (st1 := [.int 0, .ref 6]) rfl rfl rfl ?_
  refine cw_pf (c1 := .inr (.inl (1, [.ref 7, .int 0, .int i5_2]))) (pc1 := 5) rfl (by omega) (by omega) g5 rfl rfl rfl rfl ?_
  have g6 : (va_up G3 6 (.inr (.inl (1, [.ref 7, .int 0, .int i5_2])))) 5 = .inr (.inl (0, [.ref 6, .int i4_1, .ref 8, .ref 9, .ref 31])) := (va_ne (ne_ob g4 g5 (by decide))).trans g4
  have g7 : (va_up G3 6 (.inr (.inl (1, [.ref 7, .int 0, .int i5_2])))) 6 = .inr (.inl (1, [.ref 7, .int 0, .int i5_2])) := up_eq
  refine w_vret (pc1 := 15) rfl rfl rfl ?_
  refine w_mv (pc1 := 16) (lv1 := [(1, va_rf o3), (0, .ref 5)]) (st1 := [va_rf o3]) rfl rfl (by cases o3 <;> rfl) ?_
  cases o3 with
  | none =>
    replace hh := hh.1 rfl
    refine w_mv (pc1 := 19) (st1 := []) rfl rfl rfl ?_
    refine w_mv (pc1 := 20) (st1 := [.ref 5]) rfl rfl rfl ?_
    refine w_mv (pc1 := 21) (st1 := [.ref 5, .ref 5]) rfl rfl rfl ?_
    refine cw_gf (v := .ref 6) (pc1 := 24) rfl (by omega) (by omega) g6 rfl rfl ?_
    refine w_call (M' := sM_42) (vals := [.ref 6]) (rest := [.ref 5]) (lv' := [(0, .ref 6)]) rfl rfl rfl rfl rfl rfl (cH_rcv (by omega) (by omega) g7) rfl rfl rfl ?_
    refine w_mv (pc1 := 1) (st1 := [.ref 6]) rfl rfl rfl ?_
    refine cw_gf (v := .int i5_2) (pc1 := 4) rfl (by omega) (by omega) g7 rfl rfl ?_
    refine w_iret (pc1 := 27) rfl rfl rfl rfl ?_
    refine cw_pf (c1 := .inr (.inl (0, [.ref 6, .int i5_2, .ref 8, .ref 9, .ref 31]))) (pc1 := 30) rfl (by omega) (by omega) g6 rfl rfl rfl rfl ?_
    have g9 : (va_up (va_up G3 6 (.inr (.inl (1, [.ref 7, .int 0, .int i5_2])))) 5 (.inr (.inl (0, [.ref 6, .int i5_2, .ref 8, .ref 9, .ref 31])))) 6 = .inr (.inl (1, [.ref 7, .int 0, .int i5_2])) := (va_ne (ne_ob g7 g6 (by decide))).trans g7
    have g10 : (va_up (va_up G3 6 (.inr (.inl (1, [.ref 7, .int 0, .int i5_2])))) 5 (.inr (.inl (0, [.ref 6, .int i5_2, .ref 8, .ref 9, .ref 31])))) 5 = .inr (.inl (0, [.ref 6, .int i5_2, .ref 8, .ref 9, .ref 31])) := up_eq
    refine cw_thr rfl rfl (by omega) (Nat.le_of_ble_eq_true rfl) ?_
    exact c_acc (hP _ _ _ _ _ hh) (by omega) (by omega)
  | some x8 =>
    replace hh := hh.2 x8 rfl
    refine w_mv (pc1 := 38) (st1 := []) rfl rfl rfl ?_
    refine w_mv (pc1 := 39) (st1 := [.ref 5]) rfl rfl rfl ?_
    refine cw_gf (v := .ref 9) (pc1 := 42) rfl (by omega) (by omega) g6 rfl rfl ?_
    refine w_mv (pc1 := 43) (st1 := [.ref x8, .ref 9]) rfl rfl rfl ?_
    obtain ⟨b11b, i11_5, i11_6, i11_7, g11, hh⟩ := hh
    refine w_call (M' := sM_48) (vals := [.ref 9, .ref x8]) (rest := []) (lv' := [(0, .ref 9), (1, .ref x8)]) rfl rfl rfl rfl rfl rfl (cH_rcv (by omega) (by omega) g11) rfl rfl rfl ?_
    refine hh _ _ _ _ (fun r12 N12 G12 kc12 ks12 hh => ?_)
    obtain ⟨er12, hh⟩ := hh
    subst er12
    refine w_kv (pc1 := 46) rfl ?_
    refine w_mv (pc1 := 47) (st1 := [.ref x8]) rfl rfl rfl ?_
    obtain ⟨b13a, b13b, r13_0, i13_1, i13_2, g13, hh⟩ := hh
    refine w_call (M' := sM_165) (vals := [.ref x8]) (rest := []) (lv' := [(0, .ref x8)]) rfl rfl rfl rfl rfl rfl (cH_rcv (by omega) (by omega) g13) rfl rfl rfl ?_
    refine w_mv (pc1 := 1) (st1 := [.ref x8]) rfl rfl rfl ?_
    refine cw_gf (v := .int i13_1) (pc1 := 4) rfl (by omega) (by omega) g13 rfl rfl ?_
    refine w_iret (pc1 := 50) rfl rfl rfl rfl ?_
    refine sx_wp.stop rfl rfl rfl ?_
    exact c_acc (hP _ _ _ _ _ hh) (by omega) (by omega)
set_option maxRecDepth 20000 in
set_option maxHeartbeats 4000000 in
theorem k_47_0  {N : Nat} {G : Nat → sx_C} {K : Option Value ⊕ Nat → Nat → (Nat → sx_C) → Nat → Nat → Prop} (hh : 6 < N ∧ ∃ (i1_1 : Int32) (i1_2 : Int32), G 6 = .inr (.inl (1, [.ref 7, .int i1_1, .int i1_2])) ∧ 5 ≤ N ∧ cT (63) sM_36 0 [(0, .ref 6), (1, .ref N), (2, .int 0)] [] (N + 1) (va_up (va_up (va_up G 6 (.inr (.inl (1, [.ref 7, .int i1_1, .int 0])))) N (.inr (.inl (13, [.null, .int 0, .int 0])))) N (.inr (.inl (13, [.ref 1, .int 0, .int 0])))) (fun r10 N10 G10 kc10 ks10 => ∃ v10 : Int32, r10 = .inl (some (.int v10)) ∧ ((v10.toInt = 0 → K (.inl (some (.null))) (N10) G10 (kc10 + 1) (ks10 + 3)) ∧ (v10.toInt ≠ 0 → 6 < N10 ∧ ∃ (i12_1 : Int32) (i12_2 : Int32), G10 6 = .inr (.inl (1, [.ref 7, .int i12_1, .int i12_2])) ∧ ((i12_2.toInt ≠ i12_1.toInt → K (.inl (some (.null))) (N10) G10 (kc10 + 1) (ks10 + 3)) ∧ (i12_2.toInt = i12_1.toInt → K (.inl (some (.ref N))) (N10) G10 (kc10 + 1) (ks10 + 3))))))) : cT (64) sM_47 0 [(0, .ref 6)] [] N G K := by
  intro d dc ds P hP
  refine w_mv (pc1 := 1) (st1 := [.ref 6]) rfl rfl rfl ?_
  refine w_mv (pc1 := 2) (st1 := [.int 0, .ref 6]) rfl rfl rfl ?_
  obtain ⟨b1b, i1_1, i1_2, g1, hh⟩ := hh
  refine cw_pf (c1 := .inr (.inl (1, [.ref 7, .int i1_1, .int 0]))) (pc1 := 5) rfl (by omega) (by omega) g1 rfl rfl rfl rfl ?_
  have g2 : (va_up G 6 (.inr (.inl (1, [.ref 7, .int i1_1, .int 0])))) 6 = .inr (.inl (1, [.ref 7, .int i1_1, .int 0])) := up_eq
  obtain ⟨q3a, hh⟩ := hh
  refine cw_new (k := 3) (c1 := .inr (.inl (13, [.null, .int 0, .int 0]))) (pc1 := 8) rfl rfl rfl rfl ?_
  have g4 : (va_up (va_up G 6 (.inr (.inl (1, [.ref 7, .int i1_1, .int 0])))) N (.inr (.inl (13, [.null, .int 0, .int 0])))) 6 = .inr (.inl (1, [.ref 7, .int i1_1, .int 0])) := (va_ne (by omega)).trans g2
  have g5 : (va_up (va_up G 6 (.inr (.inl (1, [.ref 7, .int i1_1, .int 0])))) N (.inr (.inl (13, [.null, .int 0, .int 0])))) N = .inr (.inl (13, [.null, .int 0, .int 0])) := up_eq
  refine w_mv (pc1 := 9) (st1 := [.ref N, .ref N]) rfl rfl rfl ?_
  refine w_call (M' := sM_160) (vals := [.ref N]) (rest := [.ref N]) (lv' := [(0, .ref N)]) rfl rfl rfl rfl rfl rfl rfl rfl rfl rfl ?_
  refine w_mv (pc1 := 1) (st1 := [.ref N]) rfl rfl rfl ?_
  refine w_call (M' := sM_161) (vals := [.ref N]) (rest := []) (lv' := [(0, .ref N)]) rfl rfl rfl rfl rfl rfl rfl rfl rfl rfl ?_
  refine w_mv (pc1 := 1) (st1 := [.ref N]) rfl rfl rfl ?_
  refine w_call (M' := sM_162) (vals := [.ref N]) (rest := []) (lv' := [(0, .ref N)]) rfl rfl rfl rfl rfl rfl rfl rfl rfl rfl ?_
  refine w_mv (pc1 := 1) (st1 := [.ref N]) rfl rfl rfl ?_
  refine w_obj (pc1 := 4) (st1 := []) rfl rfl rfl ⟨by omega, Nat.le_of_ble_eq_true rfl⟩ rfl ?_
  refine w_vret (pc1 := 4) rfl rfl rfl ?_
  refine w_mv (pc1 := 5) (st1 := [.ref N]) rfl rfl rfl ?_
  refine w_mv (pc1 := 6) (st1 := [.int 0, .ref N]) rfl rfl rfl ?_
  refine cw_pf (c1 := .inr (.inl (13, [.null, .int 0, .int 0]))) (pc1 := 9) rfl (by omega) (by omega) g5 rfl rfl rfl rfl ?_
  have g6 : (va_up (va_up (va_up G 6 (.inr (.inl (1, [.ref 7, .int i1_1, .int 0])))) N (.inr (.inl (13, [.null, .int 0, .int 0])))) N (.inr (.inl (13, [.null, .int 0, .int 0])))) 6 = .inr (.inl (1, [.ref 7, .int i1_1, .int 0])) := (va_ne (ne_ob g4 g5 (by decide))).trans g4
  have g7 : (va_up (va_up (va_up G 6 (.inr (.inl (1, [.ref 7, .int i1_1, .int 0])))) N (.inr (.inl (13, [.null, .int 0, .int 0])))) N (.inr (.inl (13, [.null, .int 0, .int 0])))) N = .inr (.inl (13, [.null, .int 0, .int 0])) := up_eq
  refine w_vret (pc1 := 4) rfl rfl rfl ?_
  refine w_mv (pc1 := 5) (st1 := [.ref N]) rfl rfl rfl ?_
  refine w_mv (pc1 := 8) (st1 := [.ref 1, .ref N]) rfl rfl rfl ?_
  refine cw_pf (c1 := .inr (.inl (13, [.ref 1, .int 0, .int 0]))) (pc1 := 11) rfl (by omega) (by omega) g7 rfl rfl rfl rfl ?_
  rw [va_uu]
  have g8 : (va_up (va_up (va_up G 6 (.inr (.inl (1, [.ref 7, .int i1_1, .int 0])))) N (.inr (.inl (13, [.null, .int 0, .int 0])))) N (.inr (.inl (13, [.ref 1, .int 0, .int 0])))) 6 = .inr (.inl (1, [.ref 7, .int i1_1, .int 0])) := (va_ne (ne_ob g6 g7 (by decide))).trans ((va_ne (ne_ob g6 g7 (by decide))).symm.trans g6)
  have g9 : (va_up (va_up (va_up G 6 (.inr (.inl (1, [.ref 7, .int i1_1, .int 0])))) N (.inr (.inl (13, [.null, .int 0, .int 0])))) N (.inr (.inl (13, [.ref 1, .int 0, .int 0])))) N = .inr (.inl (13, [.ref 1, .int 0, .int 0])) := up_eq
  refine w_vret (pc1 := 12) rfl rfl rfl ?_
  refine w_mv (pc1 := 13) (lv1 := [(1, .ref N), (0, .ref 6)]) (st1 := []) rfl rfl rfl ?_
  refine w_mv (pc1 := 14) (st1 := [.ref 6]) rfl rfl rfl ?_
  refine w_mv (pc1 := 15) (st1 := [.ref N, .ref 6]) rfl rfl rfl ?_
  refine w_mv (pc1 := 16) (st1 := [.int 0, .ref N, .ref 6]) rfl rfl rfl ?_
  refine w_call (M' := sM_36) (vals := [.ref 6, .ref N, .int 0]) (rest := []) (lv' := [(0, .ref 6), (1, .ref N), (2, .int 0)]) rfl rfl rfl rfl rfl rfl (cH_rcv (by omega) (by omega) g8) rfl rfl rfl ?_
  refine hh _ _ _ _ (fun r10 N10 G10 kc10 ks10 hh => ?_)
  obtain ⟨v10, er10, hh⟩ := hh
  subst er10
  refine w_ki (pc1 := 19) rfl ?_
  by_cases h11 : v10.toInt = 0
  ·
    replace hh := hh.1 h11
    refine w_zeq_T (pc1 := 37) rfl rfl (show v10.toInt = 0 from h11) ?_
    refine w_mv (pc1 := 38) (st1 := [.null]) rfl rfl rfl ?_
    refine sx_wp.stop rfl rfl rfl ?_
    exact c_acc (hP _ _ _ _ _ hh) (by omega) (by omega)
  ·
    replace hh := hh.2 h11
    refine w_zeq_F (pc1 := 22) rfl (by decide) rfl (show v10.toInt ≠ 0 from h11) ?_
    refine w_mv (pc1 := 23) (st1 := [.ref 6]) rfl rfl rfl ?_
    obtain ⟨b12b, i12_1, i12_2, g12, hh⟩ := hh
    refine cw_gf (v := .int i12_2) (pc1 := 26) rfl (by omega) (by omega) g12 rfl rfl ?_
    refine w_mv (pc1 := 27) (st1 := [.ref 6, .int i12_2]) rfl rfl rfl ?_
    refine cw_gf (v := .int i12_1) (pc1 := 30) rfl (by omega) (by omega) g12 rfl rfl ?_
    by_cases h13 : i12_2.toInt = i12_1.toInt
    ·
      replace hh := hh.2 h13
      refine w_ine_F (pc1 := 33) rfl (by decide) rfl (show i12_2.toInt = i12_1.toInt from h13) ?_
      refine w_mv (pc1 := 34) (st1 := [.ref N]) rfl rfl rfl ?_
      refine w_mv (pc1 := 38) (st1 := [.ref N]) rfl rfl rfl ?_
      refine sx_wp.stop rfl rfl rfl ?_
      exact c_acc (hP _ _ _ _ _ hh) (by omega) (by omega)
    ·
      replace hh := hh.1 h13
      refine w_ine_T (pc1 := 37) rfl rfl (show i12_2.toInt ≠ i12_1.toInt from h13) ?_
      refine w_mv (pc1 := 38) (st1 := [.null]) rfl rfl rfl ?_
      refine sx_wp.stop rfl rfl rfl ?_
      exact c_acc (hP _ _ _ _ _ hh) (by omega) (by omega)
set_option maxRecDepth 20000 in
set_option maxHeartbeats 4000000 in
theorem k_48_0 {y1 : Nat} {N : Nat} {G : Nat → sx_C} {K : Option Value ⊕ Nat → Nat → (Nat → sx_C) → Nat → Nat → Prop} (hh : cT (62) sM_48 2 [(0, .ref 9), (1, .ref y1), (2, .int 0)] [] (N) G (fun r N1 G1 kc1 ks1 => K r N1 G1 (kc1) (ks1))) : cT (62) sM_48 0 [(0, .ref 9), (1, .ref y1)] [] N G K := by
  intro d dc ds P hP
  refine w_mv (pc1 := 1) (st1 := [.int 0]) rfl rfl rfl ?_
  refine w_mv (pc1 := 2) (lv1 := [(2, .int 0), (0, .ref 9), (1, .ref y1)]) (st1 := []) rfl rfl rfl ?_
  refine w_wk (l1 := [(0, .ref 9), (1, .ref y1), (2, .int 0)]) rfl ⟨rfl, rfl, rfl, trivial⟩ ?_
  refine hh d _ _ P (fun r N1 G1 kc1 ks1 q => ?_)
  exact c_acc (hP r N1 G1 _ _ q) (by omega) (by omega)
set_option maxRecDepth 20000 in
set_option maxHeartbeats 4000000 in
theorem k_48_2 {y1 : Nat} {p2 : Int32} {N : Nat} {G : Nat → sx_C} {K : Option Value ⊕ Nat → Nat → (Nat → sx_C) → Nat → Nat → Prop} (hh : ((4 ≤ p2.toInt → 9 < N ∧ ∃ (i2_5 : Int32) (i2_6 : Int32) (i2_7 : Int32), G 9 = .inr (.inl (2, [.ref 10, .ref 17, .ref 18, .ref 20, .ref 22, .int i2_5, .int i2_6, .int i2_7])) ∧ cT (3) sM_49 0 [(0, .ref 9), (1, .ref 18)] [] (N) G (fun r3 N3 G3 kc3 ks3 => r3 = .inl none ∧ 9 < N3 ∧ ∃ (i4_5 : Int32) (i4_6 : Int32) (i4_7 : Int32), G3 9 = .inr (.inl (2, [.ref 10, .ref 17, .ref 18, .ref 20, .ref 22, .int i4_5, .int i4_6, .int i4_7])) ∧ 10 < N3 ∧ ∃ (i5_3 : Int32) (o5_4 : Option Nat), G3 10 = .inr (.inl (3, [.ref 11, .ref 13, .ref 16, .int i5_3, va_rf o5_4])) ∧ 11 < N3 ∧ ∃ (i6_1 : Int32) (i6_2 : Int32), G3 11 = .inr (.inl (4, [.ref 12, .int i6_1, .int i6_2])) ∧ cT (62) sM_48 65 [(0, .ref 9), (1, .ref y1), (2, .int 0)] [] (N3) (va_up (va_up (va_up G3 11 (.inr (.inl (4, [.ref 12, .int 0, .int 0])))) 10 (.inr (.inl (3, [.ref 11, .ref 13, .ref 16, .int 0, .null])))) 9 (.inr (.inl (2, [.ref 10, .ref 17, .ref 18, .ref 20, .ref 22, .int 1, .int 0, .int 0])))) (fun r N1 G1 kc1 ks1 => K r N1 G1 (kc3 + kc1) (ks3 + ks1)))) ∧ (p2.toInt < 4 → 9 < N ∧ ∃ (i28_5 : Int32) (i28_6 : Int32) (i28_7 : Int32), G 9 = .inr (.inl (2, [.ref 10, .ref 17, .ref 18, .ref 20, .ref 22, .int i28_5, .int i28_6, .int i28_7])) ∧ 17 < N ∧ ∃ (f29 : Nat → Option Nat), G 17 = .inl (5, (4, .inr (.inr (.inr (.inr f29))))) ∧ 0 ≤ p2.toInt ∧ p2.toInt < (4 : Nat) ∧ ∃ x31, f29 p2.toNatClampNeg = some x31 ∧ cT (3) sM_49 0 [(0, .ref 9), (1, .ref x31)] [] (N) G (fun r32 N32 G32 kc32 ks32 => r32 = .inl none ∧ cT (62) sM_48 2 [(0, .ref 9), (1, .ref y1), (2, .int (p2 + 1))] [] (N32) G32 (fun r N1 G1 kc1 ks1 => K r N1 G1 (kc32 + kc1) (ks32 + ks1)))))) : cT (62) sM_48 2 [(0, .ref 9), (1, .ref y1), (2, .int p2)] [] N G K := by
  intro d dc ds P hP
  refine w_mv (pc1 := 3) (st1 := [.int p2]) rfl rfl rfl ?_
  refine w_mv (pc1 := 4) (st1 := [.int 4, .int p2]) rfl rfl rfl ?_
  by_cases h1 : 4 ≤ p2.toInt
  ·
    replace hh := hh.1 h1
    refine w_ige_T (pc1 := 23) rfl rfl (show 4 ≤ p2.toInt from h1) ?_
    refine w_mv (pc1 := 24) (st1 := [.ref 9]) rfl rfl rfl ?_
    refine w_mv (pc1 := 25) (st1 := [.ref 9, .ref 9]) rfl rfl rfl ?_
    obtain ⟨b2b, i2_5, i2_6, i2_7, g2, hh⟩ := hh
    refine cw_gf (v := .ref 18) (pc1 := 28) rfl (by omega) (by omega) g2 rfl rfl ?_
    refine w_call (M' := sM_49) (vals := [.ref 9, .ref 18]) (rest := []) (lv' := [(0, .ref 9), (1, .ref 18)]) rfl rfl rfl rfl rfl rfl (cH_rcv (by omega) (by omega) g2) rfl rfl rfl ?_
    refine hh _ _ _ _ (fun r3 N3 G3 kc3 ks3 hh => ?_)
    obtain ⟨er3, hh⟩ := hh
    subst er3
    refine w_kv (pc1 := 31) rfl ?_
    refine w_mv (pc1 := 32) (st1 := [.ref 9]) rfl rfl rfl ?_
    obtain ⟨b4b, i4_5, i4_6, i4_7, g4, hh⟩ := hh
    refine cw_gf (v := .ref 10) (pc1 := 35) rfl (by omega) (by omega) g4 rfl rfl ?_
    obtain ⟨b5b, i5_3, o5_4, g5, hh⟩ := hh
    refine cw_gf (v := .ref 11) (pc1 := 38) rfl (by omega) (by omega) g5 rfl rfl ?_
    obtain ⟨b6b, i6_1, i6_2, g6, hh⟩ := hh
    refine w_call (M' := sM_53) (vals := [.ref 11]) (rest := []) (lv' := [(0, .ref 11)]) rfl rfl rfl rfl rfl rfl (cH_rcv (by omega) (by omega) g6) rfl rfl rfl ?_
    refine w_mv (pc1 := 1) (st1 := [.ref 11]) rfl rfl rfl ?_
    refine w_mv (pc1 := 2) (st1 := [.int 0, .ref 11]) rfl rfl rfl ?_
    refine cw_pf (c1 := .inr (.inl (4, [.ref 12, .int 0, .int i6_2]))) (pc1 := 5) rfl (by omega) (by omega) g6 rfl rfl rfl rfl ?_
    have g7 : (va_up G3 11 (.inr (.inl (4, [.ref 12, .int 0, .int i6_2])))) 9 = .inr (.inl (2, [.ref 10, .ref 17, .ref 18, .ref 20, .ref 22, .int i4_5, .int i4_6, .int i4_7])) := (va_ne (ne_ob g4 g6 (by decide))).trans g4
    have g8 : (va_up G3 11 (.inr (.inl (4, [.ref 12, .int 0, .int i6_2])))) 10 = .inr (.inl (3, [.ref 11, .ref 13, .ref 16, .int i5_3, va_rf o5_4])) := (va_ne (ne_ob g5 g6 (by decide))).trans g5
    have g9 : (va_up G3 11 (.inr (.inl (4, [.ref 12, .int 0, .int i6_2])))) 11 = .inr (.inl (4, [.ref 12, .int 0, .int i6_2])) := up_eq
    refine w_mv (pc1 := 6) (st1 := [.ref 11]) rfl rfl rfl ?_
    refine w_mv (pc1 := 7) (st1 := [.int 0, .ref 11]) rfl rfl rfl ?_
    refine cw_pf (c1 := .inr (.inl (4, [.ref 12, .int 0, .int 0]))) (pc1 := 10) rfl (by omega) (by omega) g9 rfl rfl rfl rfl ?_
    rw [va_uu]
    have g10 : (va_up G3 11 (.inr (.inl (4, [.ref 12, .int 0, .int 0])))) 9 = .inr (.inl (2, [.ref 10, .ref 17, .ref 18, .ref 20, .ref 22, .int i4_5, .int i4_6, .int i4_7])) := (va_ne (ne_ob g7 g9 (by decide))).trans ((va_ne (ne_ob g7 g9 (by decide))).symm.trans g7)
    have g11 : (va_up G3 11 (.inr (.inl (4, [.ref 12, .int 0, .int 0])))) 10 = .inr (.inl (3, [.ref 11, .ref 13, .ref 16, .int i5_3, va_rf o5_4])) := (va_ne (ne_ob g8 g9 (by decide))).trans ((va_ne (ne_ob g8 g9 (by decide))).symm.trans g8)
    have g12 : (va_up G3 11 (.inr (.inl (4, [.ref 12, .int 0, .int 0])))) 11 = .inr (.inl (4, [.ref 12, .int 0, .int 0])) := up_eq
    refine w_vret (pc1 := 41) rfl rfl rfl ?_
    refine w_mv (pc1 := 42) (st1 := [.ref 9]) rfl rfl rfl ?_
    refine cw_gf (v := .ref 10) (pc1 := 45) rfl (by omega) (by omega) g10 rfl rfl ?_
    refine w_call (M' := sM_54) (vals := [.ref 10]) (rest := []) (lv' := [(0, .ref 10)]) rfl rfl rfl rfl rfl rfl (cH_rcv (by omega) (by omega) g11) rfl rfl rfl ?_
    refine w_mv (pc1 := 1) (st1 := [.ref 10]) rfl rfl rfl ?_
    refine w_mv (pc1 := 2) (st1 := [.int 0, .ref 10]) rfl rfl rfl ?_
    refine cw_pf (c1 := .inr (.inl (3, [.ref 11, .ref 13, .ref 16, .int 0, va_rf o5_4]))) (pc1 := 5) rfl (by omega) (by omega) g11 rfl rfl rfl rfl ?_
    have g13 : (va_up (va_up G3 11 (.inr (.inl (4, [.ref 12, .int 0, .int 0])))) 10 (.inr (.inl (3, [.ref 11, .ref 13, .ref 16, .int 0, va_rf o5_4])))) 9 = .inr (.inl (2, [.ref 10, .ref 17, .ref 18, .ref 20, .ref 22, .int i4_5, .int i4_6, .int i4_7])) := (va_ne (ne_ob g10 g11 (by decide))).trans g10
    have g14 : (va_up (va_up G3 11 (.inr (.inl (4, [.ref 12, .int 0, .int 0])))) 10 (.inr (.inl (3, [.ref 11, .ref 13, .ref 16, .int 0, va_rf o5_4])))) 11 = .inr (.inl (4, [.ref 12, .int 0, .int 0])) := (va_ne (ne_ob g12 g11 (by decide))).trans g12
    have g15 : (va_up (va_up G3 11 (.inr (.inl (4, [.ref 12, .int 0, .int 0])))) 10 (.inr (.inl (3, [.ref 11, .ref 13, .ref 16, .int 0, va_rf o5_4])))) 10 = .inr (.inl (3, [.ref 11, .ref 13, .ref 16, .int 0, va_rf o5_4])) := up_eq
    refine w_mv (pc1 := 6) (st1 := [.ref 10]) rfl rfl rfl ?_
    refine w_mv (pc1 := 7) (st1 := [.null, .ref 10]) rfl rfl rfl ?_
    refine cw_pf (c1 := .inr (.inl (3, [.ref 11, .ref 13, .ref 16, .int 0, .null]))) (pc1 := 10) rfl (by omega) (by omega) g15 rfl rfl rfl rfl ?_
    rw [va_uu]
    have g16 : (va_up (va_up G3 11 (.inr (.inl (4, [.ref 12, .int 0, .int 0])))) 10 (.inr (.inl (3, [.ref 11, .ref 13, .ref 16, .int 0, .null])))) 9 = .inr (.inl (2, [.ref 10, .ref 17, .ref 18, .ref 20, .ref 22, .int i4_5, .int i4_6, .int i4_7])) := (va_ne (ne_ob g13 g15 (by decide))).trans ((va_ne (ne_ob g13 g15 (by decide))).symm.trans g13)
    have g17 : (va_up (va_up G3 11 (.inr (.inl (4, [.ref 12, .int 0, .int 0])))) 10 (.inr (.inl (3, [.ref 11, .ref 13, .ref 16, .int 0, .null])))) 11 = .inr (.inl (4, [.ref 12, .int 0, .int 0])) := (va_ne (ne_ob g14 g15 (by decide))).trans ((va_ne (ne_ob g14 g15 (by decide))).symm.trans g14)
    have g18 : (va_up (va_up G3 11 (.inr (.inl (4, [.ref 12, .int 0, .int 0])))) 10 (.inr (.inl (3, [.ref 11, .ref 13, .ref 16, .int 0, .null])))) 10 = .inr (.inl (3, [.ref 11, .ref 13, .ref 16, .int 0, .null])) := up_eq
    refine w_vret (pc1 := 48) rfl rfl rfl ?_
    refine w_mv (pc1 := 49) (st1 := [.ref 9]) rfl rfl rfl ?_
    refine w_mv (pc1 := 50) (st1 := [.int 1, .ref 9]) rfl rfl rfl ?_
    refine cw_pf (c1 := .inr (.inl (2, [.ref 10, .ref 17, .ref 18, .ref 20, .ref 22, .int 1, .int i4_6, .int i4_7]))) (pc1 := 53) rfl (by omega) (by omega) g16 rfl rfl rfl rfl ?_
    have g19 : (va_up (va_up (va_up G3 11 (.inr (.inl (4, [.ref 12, .int 0, .int 0])))) 10 (.inr (.inl (3, [.ref 11, .ref 13, .ref 16, .int 0, .null])))) 9 (.inr (.inl (2, [.ref 10, .ref 17, .ref 18, .ref 20, .ref 22, .int 1, .int i4_6, .int i4_7])))) 11 = .inr (.inl (4, [.ref 12, .int 0, .int 0])) := (va_ne (ne_ob g17 g16 (by decide))).trans g17
    have g20 : (va_up (va_up (va_up G3 11 (.inr (.inl (4, [.ref 12, .int 0, .int 0])))) 10 (.inr (.inl (3, [.ref 11, .ref 13, .ref 16, .int 0, .null])))) 9 (.inr (.inl (2, [.ref 10, .ref 17, .ref 18, .ref 20, .ref 22, .int 1, .int i4_6, .int i4_7])))) 10 = .inr (.inl (3, [.ref 11, .ref 13, .ref 16, .int 0, .null])) := (va_ne (ne_ob g18 g16 (by decide))).trans g18
    have g21 : (va_up (va_up (va_up G3 11 (.inr (.inl (4, [.ref 12, .int 0, .int 0])))) 10 (.inr (.inl (3, [.ref 11, .ref 13, .ref 16, .int 0, .null])))) 9 (.inr (.inl (2, [.ref 10, .ref 17, .ref 18, .ref 20, .ref 22, .int 1, .int i4_6, .int i4_7])))) 9 = .inr (.inl (2, [.ref 10, .ref 17, .ref 18, .ref 20, .ref 22, .int 1, .int i4_6, .int i4_7])) := up_eq
    refine w_mv (pc1 := 54) (st1 := [.ref 9]) rfl rfl rfl ?_
    refine w_mv (pc1 := 55) (st1 := [.int 0, .ref 9]) rfl rfl rfl ?_
    refine cw_pf (c1 := .inr (.inl (2, [.ref 10, .ref 17, .ref 18, .ref 20, .ref 22, .int 1, .int 0, .int i4_7]))) (pc1 := 58) rfl (by omega) (by omega) g21 rfl rfl rfl rfl ?_
    rw [va_uu]
    have g22 : (va_up (va_up (va_up G3 11 (.inr (.inl (4, [.ref 12, .int 0, .int 0])))) 10 (.inr (.inl (3, [.ref 11, .ref 13, .ref 16, .int 0, .null])))) 9 (.inr (.inl (2, [.ref 10, .ref 17, .ref 18, .ref 20, .ref 22, .int 1, .int 0, .int i4_7])))) 11 = .inr (.inl (4, [.ref 12, .int 0, .int 0])) := (va_ne (ne_ob g19 g21 (by decide))).trans ((va_ne (ne_ob g19 g21 (by decide))).symm.trans g19)
    have g23 : (va_up (va_up (va_up G3 11 (.inr (.inl (4, [.ref 12, .int 0, .int 0])))) 10 (.inr (.inl (3, [.ref 11, .ref 13, .ref 16, .int 0, .null])))) 9 (.inr (.inl (2, [.ref 10, .ref 17, .ref 18, .ref 20, .ref 22, .int 1, .int 0, .int i4_7])))) 10 = .inr (.inl (3, [.ref 11, .ref 13, .ref 16, .int 0, .null])) := (va_ne (ne_ob g20 g21 (by decide))).trans ((va_ne (ne_ob g20 g21 (by decide))).symm.trans g20)
    have g24 : (va_up (va_up (va_up G3 11 (.inr (.inl (4, [.ref 12, .int 0, .int 0])))) 10 (.inr (.inl (3, [.ref 11, .ref 13, .ref 16, .int 0, .null])))) 9 (.inr (.inl (2, [.ref 10, .ref 17, .ref 18, .ref 20, .ref 22, .int 1, .int 0, .int i4_7])))) 9 = .inr (.inl (2, [.ref 10, .ref 17, .ref 18, .ref 20, .ref 22, .int 1, .int 0, .int i4_7])) := up_eq
    refine w_mv (pc1 := 59) (st1 := [.ref 9]) rfl rfl rfl ?_
    refine w_mv (pc1 := 60) (st1 := [.int 0, .ref 9]) rfl rfl rfl ?_
    refine cw_pf (c1 := .inr (.inl (2, [.ref 10, .ref 17, .ref 18, .ref 20, .ref 22, .int 1, .int 0, .int 0]))) (pc1 := 63) rfl (by omega) (by omega) g24 rfl rfl rfl rfl ?_
    rw [va_uu]
    have g25 : (va_up (va_up (va_up G3 11 (.inr (.inl (4, [.ref 12, .int 0, .int 0])))) 10 (.inr (.inl (3, [.ref 11, .ref 13, .ref 16, .int 0, .null])))) 9 (.inr (.inl (2, [.ref 10, .ref 17, .ref 18, .ref 20, .ref 22, .int 1, .int 0, .int 0])))) 11 = .inr (.inl (4, [.ref 12, .int 0, .int 0])) := (va_ne (ne_ob g22 g24 (by decide))).trans ((va_ne (ne_ob g22 g24 (by decide))).symm.trans g22)
    have g26 : (va_up (va_up (va_up G3 11 (.inr (.inl (4, [.ref 12, .int 0, .int 0])))) 10 (.inr (.inl (3, [.ref 11, .ref 13, .ref 16, .int 0, .null])))) 9 (.inr (.inl (2, [.ref 10, .ref 17, .ref 18, .ref 20, .ref 22, .int 1, .int 0, .int 0])))) 10 = .inr (.inl (3, [.ref 11, .ref 13, .ref 16, .int 0, .null])) := (va_ne (ne_ob g23 g24 (by decide))).trans ((va_ne (ne_ob g23 g24 (by decide))).symm.trans g23)
    have g27 : (va_up (va_up (va_up G3 11 (.inr (.inl (4, [.ref 12, .int 0, .int 0])))) 10 (.inr (.inl (3, [.ref 11, .ref 13, .ref 16, .int 0, .null])))) 9 (.inr (.inl (2, [.ref 10, .ref 17, .ref 18, .ref 20, .ref 22, .int 1, .int 0, .int 0])))) 9 = .inr (.inl (2, [.ref 10, .ref 17, .ref 18, .ref 20, .ref 22, .int 1, .int 0, .int 0])) := up_eq
    refine w_mv (pc1 := 64) (st1 := [.int 0]) rfl rfl rfl ?_
    refine w_mv (pc1 := 65) (lv1 := [(2, .int 0), (0, .ref 9), (1, .ref y1)]) (st1 := []) rfl rfl rfl ?_
    refine w_wk (l1 := [(0, .ref 9), (1, .ref y1), (2, .int 0)]) rfl ⟨rfl, rfl, rfl, trivial⟩ ?_
    refine hh d _ _ P (fun r N1 G1 kc1 ks1 q => ?_)
    exact c_acc (hP r N1 G1 _ _ q) (by omega) (by omega)
  ·
    replace hh := hh.2 (Int.not_le.mp h1)
    refine w_ige_F (pc1 := 7) rfl (by decide) rfl (show p2.toInt < 4 from (Int.not_le.mp h1)) ?_
    refine w_mv (pc1 := 8) (st1 := [.ref 9]) rfl rfl rfl ?_
    refine w_mv (pc1 := 9) (st1 := [.ref 9, .ref 9]) rfl rfl rfl ?_
    obtain ⟨b28b, i28_5, i28_6, i28_7, g28, hh⟩ := hh
    refine cw_gf (v := .ref 17) (pc1 := 12) rfl (by omega) (by omega) g28 rfl rfl ?_
    refine w_mv (pc1 := 13) (st1 := [.int p2, .ref 17, .ref 9]) rfl rfl rfl ?_
    obtain ⟨b29b, f29, g29, hh⟩ := hh
    obtain ⟨q30a, q30b, hh⟩ := hh
    refine cw_ald (pc1 := 14) rfl (by omega) g29 rfl q30a q30b rfl ?_
    obtain ⟨x31, e31, hh⟩ := hh
    rw [e31]
    refine w_call (M' := sM_49) (vals := [.ref 9, .ref x31]) (rest := []) (lv' := [(0, .ref 9), (1, .ref x31)]) rfl rfl rfl rfl rfl rfl (cH_rcv (by omega) (by omega) g28) rfl rfl rfl ?_
    refine hh _ _ _ _ (fun r32 N32 G32 kc32 ks32 hh => ?_)
    obtain ⟨er32, hh⟩ := hh
    subst er32
    refine w_kv (pc1 := 17) rfl ?_
    refine w_mv (pc1 := 20) (lv1 := [(2, .int (p2 + 1)), (0, .ref 9), (1, .ref y1)]) (st1 := []) rfl rfl rfl ?_
    refine w_mv (pc1 := 2) (st1 := []) rfl rfl rfl ?_
    refine w_wk (l1 := [(0, .ref 9), (1, .ref y1), (2, .int (p2 + 1))]) rfl ⟨rfl, rfl, rfl, trivial⟩ ?_
    refine hh d _ _ P (fun r N1 G1 kc1 ks1 q => ?_)
    exact c_acc (hP r N1 G1 _ _ q) (by omega) (by omega)
set_option maxRecDepth 20000 in
set_option maxHeartbeats 4000000 in
theorem k_48_65 {y1 : Nat} {p2 : Int32} {N : Nat} {G : Nat → sx_C} {K : Option Value ⊕ Nat → Nat → (Nat → sx_C) → Nat → Nat → Prop} (hh : 5 ≤ y1 ∧ y1 < N ∧ ∃ (r1_0 : Nat) (i1_1 : Int32) (i1_2 : Int32), G y1 = .inr (.inl (13, [.ref r1_0, .int i1_1, .int i1_2])) ∧ ((i1_1.toInt ≤ p2.toInt → cT (62) sM_48 95 [(0, .ref 9), (1, .ref y1), (2, .int 0)] [] (N) G (fun r N1 G1 kc1 ks1 => K r N1 G1 (kc1) (ks1))) ∧ (p2.toInt < i1_1.toInt → ((p2.toInt < 0 → False) ∧ (0 ≤ p2.toInt → ((p2.toInt < i1_1.toInt → r1_0 < N ∧ ∃ (n5 : Nat) (f5 : Nat → Option Nat), G r1_0 = .inl (4, (n5, .inr (.inr (.inr (.inr f5))))) ∧ 0 ≤ p2.toInt ∧ p2.toInt < (n5 : Nat) ∧ ∃ x7, f5 p2.toNatClampNeg = some x7 ∧ 5 ≤ x7 ∧ x7 < N ∧ ∃ (i8_0 : Int32) (i8_1 : Int32) (r8_2 : Nat) (o8_3 : Option Nat) (o8_4 : Option Nat), G x7 = .inr (.inl (9, [.int i8_0, .int i8_1, .ref r8_2, va_rf o8_3, va_rf o8_4])) ∧ 9 < N ∧ ∃ (i9_5 : Int32) (i9_6 : Int32) (i9_7 : Int32), G 9 = .inr (.inl (2, [.ref 10, .ref 17, .ref 18, .ref 20, .ref 22, .int i9_5, .int i9_6, .int i9_7])) ∧ cT (61) sM_55 0 [(0, .ref 9), (1, .ref x7), (2, .int 1)] [] (N) G (fun r10 N10 G10 kc10 ks10 => ∃ v10 : Int32, r10 = .inl (some (.int v10)) ∧ cT (62) sM_48 65 [(0, .ref 9), (1, .ref y1), (2, .int (p2 + 1))] [] (N10) G10 (fun r N1 G1 kc1 ks1 => K r N1 G1 (kc10 + kc1) (ks10 + ks1)))) ∧ (i1_1.toInt ≤ p2.toInt → False))))))) : cT (62) sM_48 65 [(0, .ref 9), (1, .ref y1), (2, .int p2)] [] N G K := by
  intro d dc ds P hP
  refine w_mv (pc1 := 66) (st1 := [.int p2]) rfl rfl rfl ?_
  refine w_mv (pc1 := 67) (st1 := [.ref y1, .int p2]) rfl rfl rfl ?_
  obtain ⟨b1a, b1b, r1_0, i1_1, i1_2, g1, hh⟩ := hh
  refine w_call (M' := sM_165) (vals := [.ref y1]) (rest := [.int p2]) (lv' := [(0, .ref y1)]) rfl rfl rfl rfl rfl rfl (cH_rcv (by omega) (by omega) g1) rfl rfl rfl ?_
  refine w_mv (pc1 := 1) (st1 := [.ref y1]) rfl rfl rfl ?_
  refine cw_gf (v := .int i1_1) (pc1 := 4) rfl (by omega) (by omega) g1 rfl rfl ?_
  refine w_iret (pc1 := 70) rfl rfl rfl rfl ?_
  by_cases h2 : i1_1.toInt ≤ p2.toInt
  ·
    replace hh := hh.1 h2
    refine w_ige_T (pc1 := 93) rfl rfl (show i1_1.toInt ≤ p2.toInt from h2) ?_
    refine w_mv (pc1 := 94) (st1 := [.int 0]) rfl rfl rfl ?_
    refine w_mv (pc1 := 95) (lv1 := [(2, .int 0), (0, .ref 9), (1, .ref y1)]) (st1 := []) rfl rfl rfl ?_
    refine w_wk (l1 := [(0, .ref 9), (1, .ref y1), (2, .int 0)]) rfl ⟨rfl, rfl, rfl, trivial⟩ ?_
    refine hh d _ _ P (fun r N1 G1 kc1 ks1 q => ?_)
    exact c_acc (hP r N1 G1 _ _ q) (by omega) (by omega)
  ·
    replace hh := hh.2 (Int.not_le.mp h2)
    refine w_ige_F (pc1 := 73) rfl (by decide) rfl (show p2.toInt < i1_1.toInt from (Int.not_le.mp h2)) ?_
    refine w_mv (pc1 := 74) (st1 := [.ref 9]) rfl rfl rfl ?_
    refine w_mv (pc1 := 75) (st1 := [.ref y1, .ref 9]) rfl rfl rfl ?_
    refine w_mv (pc1 := 76) (st1 := [.int p2, .ref y1, .ref 9]) rfl rfl rfl ?_
    refine w_call (M' := sM_179) (vals := [.ref y1, .int p2]) (rest := [.ref 9]) (lv' := [(0, .ref y1), (1, .int p2)]) rfl rfl rfl rfl rfl rfl (cH_rcv (by omega) (by omega) g1) rfl rfl rfl ?_
    refine w_mv (pc1 := 1) (st1 := [.int p2]) rfl rfl rfl ?_
    refine w_mv (pc1 := 2) (st1 := [.ref y1, .int p2]) rfl rfl rfl ?_
    refine cw_gf (v := .int i1_1) (pc1 := 5) rfl (by omega) (by omega) g1 rfl rfl ?_
    refine w_call (M' := sM_176) (vals := [.int p2, .int i1_1]) (rest := []) (lv' := [(0, .int p2), (1, .int i1_1)]) rfl rfl rfl rfl rfl rfl rfl rfl rfl rfl ?_
    refine w_mv (pc1 := 1) (st1 := [.int p2]) rfl rfl rfl ?_
    refine w_mv (pc1 := 2) (st1 := [.int i1_1, .int p2]) rfl rfl rfl ?_
    refine w_mv (pc1 := 3) (st1 := [.null, .int i1_1, .int p2]) rfl rfl rfl ?_
    refine w_call (M' := sM_177) (vals := [.int p2, .int i1_1, .null]) (rest := []) (lv' := [(0, .int p2), (1, .int i1_1), (2, .null)]) rfl rfl rfl rfl rfl rfl rfl rfl rfl rfl ?_
    refine w_mv (pc1 := 1) (st1 := [.int p2]) rfl rfl rfl ?_
    by_cases h3 : p2.toInt < 0
    ·
      replace hh := hh.1 h3
      refine w_zlt_T (pc1 := 9) rfl rfl (show p2.toInt < 0 from h3) ?_
      refine w_mv (pc1 := 10) (st1 := [.null]) rfl rfl rfl ?_
      refine w_mv (pc1 := 11) (st1 := [.int p2, .null]) rfl rfl rfl ?_
      refine w_mv (pc1 := 12) (st1 := [.int i1_1, .int p2, .null]) rfl rfl rfl ?_
      exact hh.elim
    ·
      replace hh := hh.2 (Int.not_lt.mp h3)
      refine w_zlt_F (pc1 := 4) rfl (by decide) rfl (show 0 ≤ p2.toInt from (Int.not_lt.mp h3)) ?_
      refine w_mv (pc1 := 5) (st1 := [.int p2]) rfl rfl rfl ?_
      refine w_mv (pc1 := 6) (st1 := [.int i1_1, .int p2]) rfl rfl rfl ?_
      by_cases h4 : p2.toInt < i1_1.toInt
      ·
        replace hh := hh.1 h4
        refine w_ilt_T (pc1 := 16) rfl rfl (show p2.toInt < i1_1.toInt from h4) ?_
        refine w_mv (pc1 := 17) (st1 := [.int p2]) rfl rfl rfl ?_
        refine w_iret (pc1 := 6) rfl rfl rfl rfl ?_
        refine w_iret (pc1 := 8) rfl rfl rfl rfl ?_
        refine w_mv (pc1 := 9) (st1 := []) rfl rfl rfl ?_
        refine w_mv (pc1 := 10) (st1 := [.ref y1]) rfl rfl rfl ?_
        refine w_mv (pc1 := 11) (st1 := [.int p2, .ref y1]) rfl rfl rfl ?_
        refine w_call (M' := sM_180) (vals := [.ref y1, .int p2]) (rest := []) (lv' := [(0, .ref y1), (1, .int p2)]) rfl rfl rfl rfl rfl rfl (cH_rcv (by omega) (by omega) g1) rfl rfl rfl ?_
        refine w_mv (pc1 := 1) (st1 := [.ref y1]) rfl rfl rfl ?_
        refine cw_gf (v := .ref r1_0) (pc1 := 4) rfl (by omega) (by omega) g1 rfl rfl ?_
        refine w_mv (pc1 := 5) (st1 := [.int p2, .ref r1_0]) rfl rfl rfl ?_
        obtain ⟨b5b, n5, f5, g5, hh⟩ := hh
        obtain ⟨q6a, q6b, hh⟩ := hh
        refine cw_ald (pc1 := 6) rfl (by omega) g5 rfl q6a q6b rfl ?_
        obtain ⟨x7, e7, hh⟩ := hh
        rw [e7]
        refine w_aret (pc1 := 14) rfl rfl rfl rfl ?_
        refine w_aret (pc1 := 79) rfl rfl rfl rfl ?_
        obtain ⟨b8a, b8b, i8_0, i8_1, r8_2, o8_3, o8_4, g8, hh⟩ := hh
        refine cw_cast (pc1 := 82) rfl (by omega) (by omega) g8 rfl ?_
        refine w_mv (pc1 := 83) (st1 := [.int 1, .ref x7, .ref 9]) rfl rfl rfl ?_
        obtain ⟨b9b, i9_5, i9_6, i9_7, g9, hh⟩ := hh
        refine w_call (M' := sM_55) (vals := [.ref 9, .ref x7, .int 1]) (rest := []) (lv' := [(0, .ref 9), (1, .ref x7), (2, .int 1)]) rfl rfl rfl rfl rfl rfl (cH_rcv (by omega) (by omega) g9) rfl rfl rfl ?_
        refine hh _ _ _ _ (fun r10 N10 G10 kc10 ks10 hh => ?_)
        obtain ⟨v10, er10, hh⟩ := hh
        subst er10
        refine w_ki (pc1 := 86) rfl ?_
        refine w_mv (pc1 := 87) (st1 := []) rfl rfl rfl ?_
        refine w_mv (pc1 := 90) (lv1 := [(2, .int (p2 + 1)), (0, .ref 9), (1, .ref y1)]) (st1 := []) rfl rfl rfl ?_
        refine w_mv (pc1 := 65) (st1 := []) rfl rfl rfl ?_
        refine w_wk (l1 := [(0, .ref 9), (1, .ref y1), (2, .int (p2 + 1))]) rfl ⟨rfl, rfl, rfl, trivial⟩ ?_
        refine hh d _ _ P (fun r N1 G1 kc1 ks1 q => ?_)
        exact c_acc (hP r N1 G1 _ _ q) (by omega) (by omega)
      ·
        replace hh := hh.2 (Int.not_lt.mp h4)
        refine w_ilt_F (pc1 := 9) rfl (by decide) rfl (show i1_1.toInt ≤ p2.toInt from (Int.not_lt.mp h4)) ?_
        refine w_mv (pc1 := 10) (st1 := [.null]) rfl rfl rfl ?_
        refine w_mv (pc1 := 11) (st1 := [.int p2, .null]) rfl rfl rfl ?_
        refine w_mv (pc1 := 12) (st1 := [.int i1_1, .int p2, .null]) rfl rfl rfl ?_
        exact hh.elim
set_option maxRecDepth 20000 in
set_option maxHeartbeats 4000000 in
theorem k_48_95 {y1 : Nat} {p2 : Int32} {N : Nat} {G : Nat → sx_C} {K : Option Value ⊕ Nat → Nat → (Nat → sx_C) → Nat → Nat → Prop} (hh : ((26 ≤ p2.toInt → K (.inl none) (N) G (0) (0)) ∧ (p2.toInt < 26 → 9 < N ∧ ∃ (i2_5 : Int32) (i2_6 : Int32) (i2_7 : Int32), G 9 = .inr (.inl (2, [.ref 10, .ref 17, .ref 18, .ref 20, .ref 22, .int i2_5, .int i2_6, .int i2_7])) ∧ 10 < N ∧ ∃ (i3_3 : Int32) (o3_4 : Option Nat), G 10 = .inr (.inl (3, [.ref 11, .ref 13, .ref 16, .int i3_3, va_rf o3_4])) ∧ (((c_ushr i3_3 p2 &&& 1).toInt = 0 → 22 < N ∧ ∃ (f5 : Nat → Option Nat), G 22 = .inl (6, (26, .inr (.inr (.inr (.inr f5))))) ∧ 0 ≤ p2.toInt ∧ p2.toInt < (26 : Nat) ∧ cT (62) sM_48 95 [(0, .ref 9), (1, .ref y1), (2, .int (p2 + 1))] [] (N) (va_up G 22 (.inl (6, (26, .inr (.inr (.inr (.inr (va_up f5 p2.toNatClampNeg none)))))))) (fun r N1 G1 kc1 ks1 => K r N1 G1 (kc1) (ks1))) ∧ ((c_ushr i3_3 p2 &&& 1).toInt ≠ 0 → 16 < N ∧ ∃ (f10 : Nat → Option Nat), G 16 = .inl (6, (26, .inr (.inr (.inr (.inr f10))))) ∧ 0 ≤ p2.toInt ∧ p2.toInt < (26 : Nat) ∧ ∃ x12, f10 p2.toNatClampNeg = some x12 ∧ 22 < N ∧ ∃ (f13 : Nat → Option Nat), G 22 = .inl (6, (26, .inr (.inr (.inr (.inr f13))))) ∧ 0 ≤ p2.toInt ∧ p2.toInt < (26 : Nat) ∧ 5 ≤ x12 ∧ x12 < N ∧ ∃ (i15_1 : Int32) (i15_2 : Int32) (i15_3 : Int32) (o15_4 : Option Nat), G x12 = .inr (.inl (10, [.ref (x12 + 1), .int i15_1, .int i15_2, .int i15_3, va_rf o15_4])) ∧ cT (62) sM_48 95 [(0, .ref 9), (1, .ref y1), (2, .int (p2 + 1))] [] (N) (va_up G 22 (.inl (6, (26, .inr (.inr (.inr (.inr (va_up f13 p2.toNatClampNeg (some x12))))))))) (fun r N1 G1 kc1 ks1 => K r N1 G1 (kc1) (ks1))))))) : cT (62) sM_48 95 [(0, .ref 9), (1, .ref y1), (2, .int p2)] [] N G K := by
  intro d dc ds P hP
  refine w_mv (pc1 := 96) (st1 := [.int p2]) rfl rfl rfl ?_
  refine w_mv (pc1 := 98) (st1 := [.int 26, .int p2]) rfl rfl rfl ?_
  by_cases h1 : 26 ≤ p2.toInt
  ·
    replace hh := hh.1 h1
    refine w_ige_T (pc1 := 121) rfl rfl (show 26 ≤ p2.toInt from h1) ?_
    refine sx_wp.stop rfl rfl rfl ?_
    exact c_acc (hP _ _ _ _ _ hh) (by omega) (by omega)
  ·
    replace hh := hh.2 (Int.not_le.mp h1)
    refine w_ige_F (pc1 := 101) rfl (by decide) rfl (show p2.toInt < 26 from (Int.not_le.mp h1)) ?_
    refine w_mv (pc1 := 102) (st1 := [.ref 9]) rfl rfl rfl ?_
    obtain ⟨b2b, i2_5, i2_6, i2_7, g2, hh⟩ := hh
    refine cw_gf (v := .ref 22) (pc1 := 105) rfl (by omega) (by omega) g2 rfl rfl ?_
    refine w_mv (pc1 := 106) (st1 := [.int p2, .ref 22]) rfl rfl rfl ?_
    refine w_mv (pc1 := 107) (st1 := [.ref 9, .int p2, .ref 22]) rfl rfl rfl ?_
    refine cw_gf (v := .ref 10) (pc1 := 110) rfl (by omega) (by omega) g2 rfl rfl ?_
    refine w_mv (pc1 := 111) (st1 := [.int p2, .ref 10, .int p2, .ref 22]) rfl rfl rfl ?_
    obtain ⟨b3b, i3_3, o3_4, g3, hh⟩ := hh
    refine w_call (M' := sM_65) (vals := [.ref 10, .int p2]) (rest := [.int p2, .ref 22]) (lv' := [(0, .ref 10), (1, .int p2)]) rfl rfl rfl rfl rfl rfl (cH_rcv (by omega) (by omega) g3) rfl rfl rfl ?_
    refine w_mv (pc1 := 1) (st1 := [.ref 10]) rfl rfl rfl ?_
    refine w_mv (pc1 := 2) (st1 := [.int p2, .ref 10]) rfl rfl rfl ?_
    refine w_call (M' := sM_57) (vals := [.ref 10, .int p2]) (rest := []) (lv' := [(0, .ref 10), (1, .int p2)]) rfl rfl rfl rfl rfl rfl (cH_rcv (by omega) (by omega) g3) rfl rfl rfl ?_
    refine w_mv (pc1 := 1) (st1 := [.ref 10]) rfl rfl rfl ?_
    refine cw_gf (v := .int i3_3) (pc1 := 4) rfl (by omega) (by omega) g3 rfl rfl ?_
    refine w_mv (pc1 := 5) (st1 := [.int p2, .int i3_3]) rfl rfl rfl ?_
    refine w_mv (pc1 := 6) (st1 := [.int (c_ushr i3_3 p2)]) rfl rfl rfl ?_
    refine w_mv (pc1 := 7) (st1 := [.int 1, .int (c_ushr i3_3 p2)]) rfl rfl rfl ?_
    refine w_mv (pc1 := 8) (st1 := [.int (c_ushr i3_3 p2 &&& 1)]) rfl rfl rfl ?_
    by_cases h4 : (c_ushr i3_3 p2 &&& 1).toInt = 0
    ·
      replace hh := hh.1 h4
      refine w_zeq_T (pc1 := 15) rfl rfl (show (c_ushr i3_3 p2 &&& 1).toInt = 0 from h4) ?_
      refine w_mv (pc1 := 16) (st1 := [.int 0]) rfl rfl rfl ?_
      refine w_iret (pc1 := 5) rfl rfl rfl rfl ?_
      refine w_mv (pc1 := 17) (st1 := []) rfl rfl rfl ?_
      refine w_mv (pc1 := 18) (st1 := [.null]) rfl rfl rfl ?_
      refine w_nret (pc1 := 114) rfl rfl rfl rfl ?_
      obtain ⟨b5b, f5, g5, hh⟩ := hh
      obtain ⟨q6a, q6b, hh⟩ := hh
      refine cw_asN (pc1 := 115) rfl (by omega) (by omega) g5 rfl q6a q6b rfl ?_
      have g7 : (va_up G 22 (.inl (6, (26, .inr (.inr (.inr (.inr (va_up f5 p2.toNatClampNeg none)))))))) 9 = .inr (.inl (2, [.ref 10, .ref 17, .ref 18, .ref 20, .ref 22, .int i2_5, .int i2_6, .int i2_7])) := (va_ne (ne_oa g2 g5)).trans g2
      have g8 : (va_up G 22 (.inl (6, (26, .inr (.inr (.inr (.inr (va_up f5 p2.toNatClampNeg none)))))))) 10 = .inr (.inl (3, [.ref 11, .ref 13, .ref 16, .int i3_3, va_rf o3_4])) := (va_ne (ne_oa g3 g5)).trans g3
      have g9 : (va_up G 22 (.inl (6, (26, .inr (.inr (.inr (.inr (va_up f5 p2.toNatClampNeg none)))))))) 22 = .inl (6, (26, .inr (.inr (.inr (.inr (va_up f5 p2.toNatClampNeg none)))))) := up_eq
      refine w_mv (pc1 := 118) (lv1 := [(2, .int (p2 + 1)), (0, .ref 9), (1, .ref y1)]) (st1 := []) rfl rfl rfl ?_
      refine w_mv (pc1 := 95) (st1 := []) rfl rfl rfl ?_
      refine w_wk (l1 := [(0, .ref 9), (1, .ref y1), (2, .int (p2 + 1))]) rfl ⟨rfl, rfl, rfl, trivial⟩ ?_
      refine hh d _ _ P (fun r N1 G1 kc1 ks1 q => ?_)
      exact c_acc (hP r N1 G1 _ _ q) (by omega) (by omega)
    ·
      replace hh := hh.2 h4
      refine w_zeq_F (pc1 := 11) rfl (by decide) rfl (show (c_ushr i3_3 p2 &&& 1).toInt ≠ 0 from h4) ?_
      refine w_mv (pc1 := 12) (st1 := [.int 1]) rfl rfl rfl ?_
      refine w_mv (pc1 := 16) (st1 := [.int 1]) rfl rfl rfl ?_
      refine w_iret (pc1 := 5) rfl rfl rfl rfl ?_
      refine w_mv (pc1 := 8) (st1 := []) rfl rfl rfl ?_
      refine w_mv (pc1 := 9) (st1 := [.ref 10]) rfl rfl rfl ?_
      refine cw_gf (v := .ref 16) (pc1 := 12) rfl (by omega) (by omega) g3 rfl rfl ?_
      refine w_mv (pc1 := 13) (st1 := [.int p2, .ref 16]) rfl rfl rfl ?_
      obtain ⟨b10b, f10, g10, hh⟩ := hh
      obtain ⟨q11a, q11b, hh⟩ := hh
      refine cw_ald (pc1 := 14) rfl (by omega) g10 rfl q11a q11b rfl ?_
      obtain ⟨x12, e12, hh⟩ := hh
      rw [e12]
      refine w_mv (pc1 := 18) (st1 := [.ref x12]) rfl rfl rfl ?_
      refine w_aret (pc1 := 114) rfl rfl rfl rfl ?_
      obtain ⟨b13b, f13, g13, hh⟩ := hh
      obtain ⟨q14a, q14b, hh⟩ := hh
      obtain ⟨b15a, b15b, i15_1, i15_2, i15_3, o15_4, g15, hh⟩ := hh
      refine cw_as (pc1 := 115) rfl (by omega) (by omega) g13 (by omega) (by omega) g15 rfl q14a q14b rfl ?_
      have g16 : (va_up G 22 (.inl (6, (26, .inr (.inr (.inr (.inr (va_up f13 p2.toNatClampNeg (some x12))))))))) 9 = .inr (.inl (2, [.ref 10, .ref 17, .ref 18, .ref 20, .ref 22, .int i2_5, .int i2_6, .int i2_7])) := (va_ne (ne_oa g2 g13)).trans g2
      have g17 : (va_up G 22 (.inl (6, (26, .inr (.inr (.inr (.inr (va_up f13 p2.toNatClampNeg (some x12))))))))) 10 = .inr (.inl (3, [.ref 11, .ref 13, .ref 16, .int i3_3, va_rf o3_4])) := (va_ne (ne_oa g3 g13)).trans g3
      have g18 : (va_up G 22 (.inl (6, (26, .inr (.inr (.inr (.inr (va_up f13 p2.toNatClampNeg (some x12))))))))) 16 = .inl (6, (26, .inr (.inr (.inr (.inr f10))))) := (va_ne (by omega)).trans g10
      have g19 : (va_up G 22 (.inl (6, (26, .inr (.inr (.inr (.inr (va_up f13 p2.toNatClampNeg (some x12))))))))) x12 = .inr (.inl (10, [.ref (x12 + 1), .int i15_1, .int i15_2, .int i15_3, va_rf o15_4])) := (va_ne (ne_oa g15 g13)).trans g15
      have g20 : (va_up G 22 (.inl (6, (26, .inr (.inr (.inr (.inr (va_up f13 p2.toNatClampNeg (some x12))))))))) 22 = .inl (6, (26, .inr (.inr (.inr (.inr (va_up f13 p2.toNatClampNeg (some x12))))))) := up_eq
      refine w_mv (pc1 := 118) (lv1 := [(2, .int (p2 + 1)), (0, .ref 9), (1, .ref y1)]) (st1 := []) rfl rfl rfl ?_
      refine w_mv (pc1 := 95) (st1 := []) rfl rfl rfl ?_
      refine w_wk (l1 := [(0, .ref 9), (1, .ref y1), (2, .int (p2 + 1))]) rfl ⟨rfl, rfl, rfl, trivial⟩ ?_
      refine hh d _ _ P (fun r N1 G1 kc1 ks1 q => ?_)
      exact c_acc (hP r N1 G1 _ _ q) (by omega) (by omega)
set_option maxRecDepth 20000 in
set_option maxHeartbeats 4000000 in
theorem k_49_0 {y1 : Nat} {N : Nat} {G : Nat → sx_C} {K : Option Value ⊕ Nat → Nat → (Nat → sx_C) → Nat → Nat → Prop} (hh : 5 ≤ y1 ∧ y1 < N ∧ ∃ (i1_1 : Int32), G y1 = .inr (.inl (6, [.ref (y1 + 1), .int i1_1])) ∧ cT (3) sM_49 7 [(0, .ref 9), (1, .ref y1), (2, .int (i1_1 - 1))] [] (N) G (fun r N1 G1 kc1 ks1 => K r N1 G1 (kc1) (ks1))) : cT (3) sM_49 0 [(0, .ref 9), (1, .ref y1)] [] N G K := by
  intro d dc ds P hP
  refine w_mv (pc1 := 1) (st1 := [.ref y1]) rfl rfl rfl ?_
  obtain ⟨b1a, b1b, i1_1, g1, hh⟩ := hh
  refine w_call (M' := sM_11) (vals := [.ref y1]) (rest := []) (lv' := [(0, .ref y1)]) rfl rfl rfl rfl rfl rfl (cH_rcv (by omega) (by omega) g1) rfl rfl rfl ?_
  refine w_mv (pc1 := 1) (st1 := [.ref y1]) rfl rfl rfl ?_
  refine cw_gf (v := .int i1_1) (pc1 := 4) rfl (by omega) (by omega) g1 rfl rfl ?_
  refine w_iret (pc1 := 4) rfl rfl rfl rfl ?_
  refine w_mv (pc1 := 5) (st1 := [.int 1, .int i1_1]) rfl rfl rfl ?_
  refine w_mv (pc1 := 6) (st1 := [.int (i1_1 - 1)]) rfl rfl rfl ?_
  refine w_mv (pc1 := 7) (lv1 := [(2, .int (i1_1 - 1)), (0, .ref 9), (1, .ref y1)]) (st1 := []) rfl rfl rfl ?_
  refine w_wk (l1 := [(0, .ref 9), (1, .ref y1), (2, .int (i1_1 - 1))]) rfl ⟨rfl, rfl, rfl, trivial⟩ ?_
  refine hh d _ _ P (fun r N1 G1 kc1 ks1 q => ?_)
  exact c_acc (hP r N1 G1 _ _ q) (by omega) (by omega)
set_option maxRecDepth 20000 in
set_option maxHeartbeats 4000000 in
theorem k_49_7 {y1 : Nat} {p2 : Int32} {N : Nat} {G : Nat → sx_C} {K : Option Value ⊕ Nat → Nat → (Nat → sx_C) → Nat → Nat → Prop} (hh : ((p2.toInt < 0 → K (.inl none) (N) G (0) (0)) ∧ (0 ≤ p2.toInt → 9 < N ∧ ∃ (i2_5 : Int32) (i2_6 : Int32) (i2_7 : Int32), G 9 = .inr (.inl (2, [.ref 10, .ref 17, .ref 18, .ref 20, .ref 22, .int i2_5, .int i2_6, .int i2_7])) ∧ 5 ≤ y1 ∧ y1 < N ∧ ∃ (i3_1 : Int32), G y1 = .inr (.inl (6, [.ref (y1 + 1), .int i3_1])) ∧ cT (2) sM_50 0 [(0, .ref y1), (1, .int p2)] [] (N) G (fun r4 N4 G4 kc4 ks4 => ∃ o4 : Option Nat, r4 = .inl (some (va_rf o4)) ∧ ((o4 = none → 20 < N4 ∧ ∃ (i6_1 : Int32), G4 20 = .inr (.inl (6, [.ref 21, .int i6_1])) ∧ 21 < N4 ∧ ∃ (f7 : Nat → Option Nat), G4 21 = .inl (7, (61, .inr (.inr (.inr (.inr f7))))) ∧ ((61 ≤ i6_1.toInt → cT (3) sM_49 7 [(0, .ref 9), (1, .ref y1), (2, .int (p2 + (-1)))] [] (N4) G4 (fun r N1 G1 kc1 ks1 => K r N1 G1 (kc4 + kc1) (ks4 + ks1))) ∧ (i6_1.toInt < 61 → 0 ≤ i6_1.toInt ∧ i6_1.toInt < (61 : Nat) ∧ cT (3) sM_49 7 [(0, .ref 9), (1, .ref y1), (2, .int (p2 + (-1)))] [] (N4) (va_up (va_up G4 21 (.inl (7, (61, .inr (.inr (.inr (.inr (va_up f7 i6_1.toNatClampNeg none)))))))) 20 (.inr (.inl (6, [.ref 21, .int (i6_1 + 1)])))) (fun r N1 G1 kc1 ks1 => K r N1 G1 (kc4 + kc1) (ks4 + ks1))))) ∧ (∀ x5, o4 = some x5 → 20 < N4 ∧ ∃ (i14_1 : Int32), G4 20 = .inr (.inl (6, [.ref 21, .int i14_1])) ∧ 21 < N4 ∧ ∃ (f15 : Nat → Option Nat), G4 21 = .inl (7, (61, .inr (.inr (.inr (.inr f15))))) ∧ ((61 ≤ i14_1.toInt → cT (3) sM_49 7 [(0, .ref 9), (1, .ref y1), (2, .int (p2 + (-1)))] [] (N4) G4 (fun r N1 G1 kc1 ks1 => K r N1 G1 (kc4 + kc1) (ks4 + ks1))) ∧ (i14_1.toInt < 61 → 0 ≤ i14_1.toInt ∧ i14_1.toInt < (61 : Nat) ∧ 5 ≤ x5 ∧ x5 < N4 ∧ ∃ (i18_0 : Int32) (i18_1 : Int32) (o18_2 : Option Nat) (o18_3 : Option Nat) (o18_4 : Option Nat) (i18_6 : Int32), G4 x5 = .inr (.inl (11, [.int i18_0, .int i18_1, va_rf o18_2, va_rf o18_3, va_rf o18_4, .ref (x5 + 1), .int i18_6])) ∧ cT (3) sM_49 7 [(0, .ref 9), (1, .ref y1), (2, .int (p2 + (-1)))] [] (N4) (va_up (va_up G4 21 (.inl (7, (61, .inr (.inr (.inr (.inr (va_up f15 i14_1.toNatClampNeg (some x5))))))))) 20 (.inr (.inl (6, [.ref 21, .int (i14_1 + 1)])))) (fun r N1 G1 kc1 ks1 => K r N1 G1 (kc4 + kc1) (ks4 + ks1)))))))))) : cT (3) sM_49 7 [(0, .ref 9), (1, .ref y1), (2, .int p2)] [] N G K := by
  intro d dc ds P hP
  refine w_mv (pc1 := 8) (st1 := [.int p2]) rfl rfl rfl ?_
  by_cases h1 : p2.toInt < 0
  ·
    replace hh := hh.1 h1
    refine w_zlt_T (pc1 := 29) rfl rfl (show p2.toInt < 0 from h1) ?_
    refine sx_wp.stop rfl rfl rfl ?_
    exact c_acc (hP _ _ _ _ _ hh) (by omega) (by omega)
  ·
    replace hh := hh.2 (Int.not_lt.mp h1)
    refine w_zlt_F (pc1 := 11) rfl (by decide) rfl (show 0 ≤ p2.toInt from (Int.not_lt.mp h1)) ?_
    refine w_mv (pc1 := 12) (st1 := [.ref 9]) rfl rfl rfl ?_
    obtain ⟨b2b, i2_5, i2_6, i2_7, g2, hh⟩ := hh
    refine cw_gf (v := .ref 20) (pc1 := 15) rfl (by omega) (by omega) g2 rfl rfl ?_
    refine w_mv (pc1 := 16) (st1 := [.ref y1, .ref 20]) rfl rfl rfl ?_
    refine w_mv (pc1 := 17) (st1 := [.int p2, .ref y1, .ref 20]) rfl rfl rfl ?_
    obtain ⟨b3a, b3b, i3_1, g3, hh⟩ := hh
    refine w_call (M' := sM_50) (vals := [.ref y1, .int p2]) (rest := [.ref 20]) (lv' := [(0, .ref y1), (1, .int p2)]) rfl rfl rfl rfl rfl rfl (cH_rcv (by omega) (by omega) g3) rfl rfl rfl ?_
    refine hh _ _ _ _ (fun r4 N4 G4 kc4 ks4 hh => ?_)
    obtain ⟨o4, er4, hh⟩ := hh
    subst er4
    refine w_kr (pc1 := 20) rfl ?_
    cases o4 with
    | none =>
      replace hh := hh.1 rfl
      obtain ⟨b6b, i6_1, g6, hh⟩ := hh
      refine w_call (M' := sM_52) (vals := [.ref 20, .null]) (rest := []) (lv' := [(0, .ref 20), (1, .null)]) rfl rfl rfl rfl rfl rfl (cH_rcv (by omega) (by omega) g6) rfl rfl rfl ?_
      refine w_mv (pc1 := 1) (st1 := [.ref 20]) rfl rfl rfl ?_
      refine cw_gf (v := .int i6_1) (pc1 := 4) rfl (by omega) (by omega) g6 rfl rfl ?_
      refine w_mv (pc1 := 5) (st1 := [.ref 20, .int i6_1]) rfl rfl rfl ?_
      refine cw_gf (v := .ref 21) (pc1 := 8) rfl (by omega) (by omega) g6 rfl rfl ?_
      obtain ⟨b7b, f7, g7, hh⟩ := hh
      refine cw_alen (pc1 := 9) rfl (by omega) g7 rfl ?_
      by_cases h8 : 61 ≤ i6_1.toInt
      ·
        replace hh := hh.1 h8
        refine w_ige_T (pc1 := 32) rfl rfl (show 61 ≤ i6_1.toInt from h8) ?_
        refine w_vret (pc1 := 23) rfl rfl rfl ?_
        refine w_mv (pc1 := 26) (lv1 := [(2, .int (p2 + (-1))), (0, .ref 9), (1, .ref y1)]) (st1 := []) rfl rfl rfl ?_
        refine w_mv (pc1 := 7) (st1 := []) rfl rfl rfl ?_
        refine w_wk (l1 := [(0, .ref 9), (1, .ref y1), (2, .int (p2 + (-1)))]) rfl ⟨rfl, rfl, rfl, trivial⟩ ?_
        refine hh d _ _ P (fun r N1 G1 kc1 ks1 q => ?_)
        exact c_acc (hP r N1 G1 _ _ q) (by omega) (by omega)
      ·
        replace hh := hh.2 (Int.not_le.mp h8)
        refine w_ige_F (pc1 := 12) rfl (by decide) rfl (show i6_1.toInt < 61 from (Int.not_le.mp h8)) ?_
        refine w_mv (pc1 := 13) (st1 := [.ref 20]) rfl rfl rfl ?_
        refine cw_gf (v := .ref 21) (pc1 := 16) rfl (by omega) (by omega) g6 rfl rfl ?_
        refine w_mv (pc1 := 17) (st1 := [.ref 20, .ref 21]) rfl rfl rfl ?_
        refine cw_gf (v := .int i6_1) (pc1 := 20) rfl (by omega) (by omega) g6 rfl rfl ?_
        refine w_mv (pc1 := 21) (st1 := [.null, .int i6_1, .ref 21]) rfl rfl rfl ?_
        obtain ⟨q9a, q9b, hh⟩ := hh
        refine cw_asN (pc1 := 22) rfl (by omega) (by omega) g7 rfl q9a q9b rfl ?_
        have g10 : (va_up G4 21 (.inl (7, (61, .inr (.inr (.inr (.inr (va_up f7 i6_1.toNatClampNeg none)))))))) 20 = .inr (.inl (6, [.ref 21, .int i6_1])) := (va_ne (ne_oa g6 g7)).trans g6
        have g11 : (va_up G4 21 (.inl (7, (61, .inr (.inr (.inr (.inr (va_up f7 i6_1.toNatClampNeg none)))))))) 21 = .inl (7, (61, .inr (.inr (.inr (.inr (va_up f7 i6_1.toNatClampNeg none)))))) := up_eq
        refine w_mv (pc1 := 23) (st1 := [.ref 20]) rfl rfl rfl ?_
        refine w_mv (pc1 := 24) (st1 := [.ref 20, .ref 20]) rfl rfl rfl ?_
        refine cw_gf (v := .int i6_1) (pc1 := 27) rfl (by omega) (by omega) g10 rfl rfl ?_
        refine w_mv (pc1 := 28) (st1 := [.int 1, .int i6_1, .ref 20]) rfl rfl rfl ?_
        refine w_mv (pc1 := 29) (st1 := [.int (i6_1 + 1), .ref 20]) rfl rfl rfl ?_
        refine cw_pf (c1 := .inr (.inl (6, [.ref 21, .int (i6_1 + 1)]))) (pc1 := 32) rfl (by omega) (by omega) g10 rfl rfl rfl rfl ?_
        have g12 : (va_up (va_up G4 21 (.inl (7, (61, .inr (.inr (.inr (.inr (va_up f7 i6_1.toNatClampNeg none)))))))) 20 (.inr (.inl (6, [.ref 21, .int (i6_1 + 1)])))) 21 = .inl (7, (61, .inr (.inr (.inr (.inr (va_up f7 i6_1.toNatClampNeg none)))))) := (va_ne (ne_ao g11 g10)).trans g11
        have g13 : (va_up (va_up G4 21 (.inl (7, (61, .inr (.inr (.inr (.inr (va_up f7 i6_1.toNatClampNeg none)))))))) 20 (.inr (.inl (6, [.ref 21, .int (i6_1 + 1)])))) 20 = .inr (.inl (6, [.ref 21, .int (i6_1 + 1)])) := up_eq
        refine w_vret (pc1 := 23) rfl rfl rfl ?_
        refine w_mv (pc1 := 26) (lv1 := [(2, .int (p2 + (-1))), (0, .ref 9), (1, .ref y1)]) (st1 := []) rfl rfl rfl ?_
        refine w_mv (pc1 := 7) (st1 := []) rfl rfl rfl ?_
        refine w_wk (l1 := [(0, .ref 9), (1, .ref y1), (2, .int (p2 + (-1)))]) rfl ⟨rfl, rfl, rfl, trivial⟩ ?_
        refine hh d _ _ P (fun r N1 G1 kc1 ks1 q => ?_)
        exact c_acc (hP r N1 G1 _ _ q) (by omega) (by omega)
    | some x5 =>
      replace hh := hh.2 x5 rfl
      obtain ⟨b14b, i14_1, g14, hh⟩ := hh
      refine w_call (M' := sM_52) (vals := [.ref 20, .ref x5]) (rest := []) (lv' := [(0, .ref 20), (1, .ref x5)]) rfl rfl rfl rfl rfl rfl (cH_rcv (by omega) (by omega) g14) rfl rfl rfl ?_
      refine w_mv (pc1 := 1) (st1 := [.ref 20]) rfl rfl rfl ?_
      refine cw_gf (v := .int i14_1) (pc1 := 4) rfl (by omega) (by omega) g14 rfl rfl ?_
      refine w_mv (pc1 := 5) (st1 := [.ref 20, .int i14_1]) rfl rfl rfl ?_
      refine cw_gf (v := .ref 21) (pc1 := 8) rfl (by omega) (by omega) g14 rfl rfl ?_
      obtain ⟨b15b, f15, g15, hh⟩ := hh
      refine cw_alen (pc1 := 9) rfl (by omega) g15 rfl ?_
      by_cases h16 : 61 ≤ i14_1.toInt
      ·
        replace hh := hh.1 h16
        refine w_ige_T (pc1 := 32) rfl rfl (show 61 ≤ i14_1.toInt from h16) ?_
        refine w_vret (pc1 := 23) rfl rfl rfl ?_
        refine w_mv (pc1 := 26) (lv1 := [(2, .int (p2 + (-1))), (0, .ref 9), (1, .ref y1)]) (st1 := []) rfl rfl rfl ?_
        refine w_mv (pc1 := 7) (st1 := []) rfl rfl rfl ?_
        refine w_wk (l1 := [(0, .ref 9), (1, .ref y1), (2, .int (p2 + (-1)))]) rfl ⟨rfl, rfl, rfl, trivial⟩ ?_
        refine hh d _ _ P (fun r N1 G1 kc1 ks1 q => ?_)
        exact c_acc (hP r N1 G1 _ _ q) (by omega) (by omega)
      ·
        replace hh := hh.2 (Int.not_le.mp h16)
        refine w_ige_F (pc1 := 12) rfl (by decide) rfl (show i14_1.toInt < 61 from (Int.not_le.mp h16)) ?_
        refine w_mv (pc1 := 13) (st1 := [.ref 20]) rfl rfl rfl ?_
        refine cw_gf (v := .ref 21) (pc1 := 16) rfl (by omega) (by omega) g14 rfl rfl ?_
        refine w_mv (pc1 := 17) (st1 := [.ref 20, .ref 21]) rfl rfl rfl ?_
        refine cw_gf (v := .int i14_1) (pc1 := 20) rfl (by omega) (by omega) g14 rfl rfl ?_
        refine w_mv (pc1 := 21) (st1 := [.ref x5, .int i14_1, .ref 21]) rfl rfl rfl ?_
        obtain ⟨q17a, q17b, hh⟩ := hh
        obtain ⟨b18a, b18b, i18_0, i18_1, o18_2, o18_3, o18_4, i18_6, g18, hh⟩ := hh
        refine cw_as (pc1 := 22) rfl (by omega) (by omega) g15 (by omega) (by omega) g18 rfl q17a q17b rfl ?_
        have g19 : (va_up G4 21 (.inl (7, (61, .inr (.inr (.inr (.inr (va_up f15 i14_1.toNatClampNeg (some x5))))))))) 20 = .inr (.inl (6, [.ref 21, .int i14_1])) := (va_ne (ne_oa g14 g15)).trans g14
        have g20 : (va_up G4 21 (.inl (7, (61, .inr (.inr (.inr (.inr (va_up f15 i14_1.toNatClampNeg (some x5))))))))) x5 = .inr (.inl (11, [.int i18_0, .int i18_1, va_rf o18_2, va_rf o18_3, va_rf o18_4, .ref (x5 + 1), .int i18_6])) := (va_ne (ne_oa g18 g15)).trans g18
        have g21 : (va_up G4 21 (.inl (7, (61, .inr (.inr (.inr (.inr (va_up f15 i14_1.toNatClampNeg (some x5))))))))) 21 = .inl (7, (61, .inr (.inr (.inr (.inr (va_up f15 i14_1.toNatClampNeg (some x5))))))) := up_eq
        refine w_mv (pc1 := 23) (st1 := [.ref 20]) rfl rfl rfl ?_
        refine w_mv (pc1 := 24) (st1 := [.ref 20, .ref 20]) rfl rfl rfl ?_
        refine cw_gf (v := .int i14_1) (pc1 := 27) rfl (by omega) (by omega) g19 rfl rfl ?_
        refine w_mv (pc1 := 28) (st1 := [.int 1, .int i14_1, .ref 20]) rfl rfl rfl ?_
        refine w_mv (pc1 := 29) (st1 := [.int (i14_1 + 1), .ref 20]) rfl rfl rfl ?_
        refine cw_pf (c1 := .inr (.inl (6, [.ref 21, .int (i14_1 + 1)]))) (pc1 := 32) rfl (by omega) (by omega) g19 rfl rfl rfl rfl ?_
        have g22 : (va_up (va_up G4 21 (.inl (7, (61, .inr (.inr (.inr (.inr (va_up f15 i14_1.toNatClampNeg (some x5))))))))) 20 (.inr (.inl (6, [.ref 21, .int (i14_1 + 1)])))) x5 = .inr (.inl (11, [.int i18_0, .int i18_1, va_rf o18_2, va_rf o18_3, va_rf o18_4, .ref (x5 + 1), .int i18_6])) := (va_ne (ne_ob g20 g19 (by decide))).trans g20
        have g23 : (va_up (va_up G4 21 (.inl (7, (61, .inr (.inr (.inr (.inr (va_up f15 i14_1.toNatClampNeg (some x5))))))))) 20 (.inr (.inl (6, [.ref 21, .int (i14_1 + 1)])))) 21 = .inl (7, (61, .inr (.inr (.inr (.inr (va_up f15 i14_1.toNatClampNeg (some x5))))))) := (va_ne (ne_ao g21 g19)).trans g21
        have g24 : (va_up (va_up G4 21 (.inl (7, (61, .inr (.inr (.inr (.inr (va_up f15 i14_1.toNatClampNeg (some x5))))))))) 20 (.inr (.inl (6, [.ref 21, .int (i14_1 + 1)])))) 20 = .inr (.inl (6, [.ref 21, .int (i14_1 + 1)])) := up_eq
        refine w_vret (pc1 := 23) rfl rfl rfl ?_
        refine w_mv (pc1 := 26) (lv1 := [(2, .int (p2 + (-1))), (0, .ref 9), (1, .ref y1)]) (st1 := []) rfl rfl rfl ?_
        refine w_mv (pc1 := 7) (st1 := []) rfl rfl rfl ?_
        refine w_wk (l1 := [(0, .ref 9), (1, .ref y1), (2, .int (p2 + (-1)))]) rfl ⟨rfl, rfl, rfl, trivial⟩ ?_
        refine hh d _ _ P (fun r N1 G1 kc1 ks1 q => ?_)
        exact c_acc (hP r N1 G1 _ _ q) (by omega) (by omega)
set_option maxRecDepth 20000 in
set_option maxHeartbeats 4000000 in
theorem k_50_0 {x0 : Nat} {p1 : Int32} {N : Nat} {G : Nat → sx_C} {K : Option Value ⊕ Nat → Nat → (Nat → sx_C) → Nat → Nat → Prop} (hh : 5 ≤ x0 ∧ x0 < N ∧ ∃ (i1_1 : Int32), G x0 = .inr (.inl (6, [.ref (x0 + 1), .int i1_1])) ∧ ((p1.toInt < 0 → K (.inl (some (.null))) (N) G (0) (0)) ∧ (0 ≤ p1.toInt → ((i1_1.toInt ≤ p1.toInt → K (.inl (some (.null))) (N) G (0) (0)) ∧ (p1.toInt < i1_1.toInt → 5 ≤ x0 + 1 ∧ x0 + 1 < N ∧ ∃ (f4 : Nat → Option Nat), G (x0 + 1) = .inl (7, (61, .inr (.inr (.inr (.inr f4))))) ∧ 0 ≤ p1.toInt ∧ p1.toInt < (61 : Nat) ∧ ∃ x6, f4 p1.toNatClampNeg = some x6 ∧ cT (2) sM_50 16 [(0, .ref x0), (1, .int p1), (2, .ref x6), (3, .int (p1 + 1))] [] (N) G (fun r N1 G1 kc1 ks1 => K r N1 G1 (kc1) (ks1))))))) : cT (2) sM_50 0 [(0, .ref x0), (1, .int p1)] [] N G K := by
  intro d dc ds P hP
  refine w_mv (pc1 := 1) (st1 := [.ref x0]) rfl rfl rfl ?_
  refine w_mv (pc1 := 2) (st1 := [.int p1, .ref x0]) rfl rfl rfl ?_
  obtain ⟨b1a, b1b, i1_1, g1, hh⟩ := hh
  refine w_call (M' := sM_51) (vals := [.ref x0, .int p1]) (rest := []) (lv' := [(0, .ref x0), (1, .int p1)]) rfl rfl rfl rfl rfl rfl (cH_rcv (by omega) (by omega) g1) rfl rfl rfl ?_
  refine w_mv (pc1 := 1) (st1 := [.int p1]) rfl rfl rfl ?_
  by_cases h2 : p1.toInt < 0
  ·
    replace hh := hh.1 h2
    refine w_zlt_T (pc1 := 21) rfl rfl (show p1.toInt < 0 from h2) ?_
    refine w_mv (pc1 := 22) (st1 := [.null]) rfl rfl rfl ?_
    refine w_nret (pc1 := 5) rfl rfl rfl rfl ?_
    refine w_mv (pc1 := 6) (lv1 := [(2, .null), (0, .ref x0), (1, .int p1)]) (st1 := []) rfl rfl rfl ?_
    refine w_mv (pc1 := 7) (st1 := [.null]) rfl rfl rfl ?_
    refine w_mv (pc1 := 10) (st1 := []) rfl rfl rfl ?_
    refine w_mv (pc1 := 11) (st1 := [.null]) rfl rfl rfl ?_
    refine sx_wp.stop rfl rfl rfl ?_
    exact c_acc (hP _ _ _ _ _ hh) (by omega) (by omega)
  ·
    replace hh := hh.2 (Int.not_lt.mp h2)
    refine w_zlt_F (pc1 := 4) rfl (by decide) rfl (show 0 ≤ p1.toInt from (Int.not_lt.mp h2)) ?_
    refine w_mv (pc1 := 5) (st1 := [.int p1]) rfl rfl rfl ?_
    refine w_mv (pc1 := 6) (st1 := [.ref x0, .int p1]) rfl rfl rfl ?_
    refine cw_gf (v := .int i1_1) (pc1 := 9) rfl (by omega) (by omega) g1 rfl rfl ?_
    by_cases h3 : i1_1.toInt ≤ p1.toInt
    ·
      replace hh := hh.1 h3
      refine w_ige_T (pc1 := 21) rfl rfl (show i1_1.toInt ≤ p1.toInt from h3) ?_
      refine w_mv (pc1 := 22) (st1 := [.null]) rfl rfl rfl ?_
      refine w_nret (pc1 := 5) rfl rfl rfl rfl ?_
      refine w_mv (pc1 := 6) (lv1 := [(2, .null), (0, .ref x0), (1, .int p1)]) (st1 := []) rfl rfl rfl ?_
      refine w_mv (pc1 := 7) (st1 := [.null]) rfl rfl rfl ?_
      refine w_mv (pc1 := 10) (st1 := []) rfl rfl rfl ?_
      refine w_mv (pc1 := 11) (st1 := [.null]) rfl rfl rfl ?_
      refine sx_wp.stop rfl rfl rfl ?_
      exact c_acc (hP _ _ _ _ _ hh) (by omega) (by omega)
    ·
      replace hh := hh.2 (Int.not_le.mp h3)
      refine w_ige_F (pc1 := 12) rfl (by decide) rfl (show p1.toInt < i1_1.toInt from (Int.not_le.mp h3)) ?_
      refine w_mv (pc1 := 13) (st1 := [.ref x0]) rfl rfl rfl ?_
      refine cw_gf (v := .ref (x0 + 1)) (pc1 := 16) rfl (by omega) (by omega) g1 rfl rfl ?_
      refine w_mv (pc1 := 17) (st1 := [.int p1, .ref (x0 + 1)]) rfl rfl rfl ?_
      obtain ⟨b4a, b4b, f4, g4, hh⟩ := hh
      obtain ⟨q5a, q5b, hh⟩ := hh
      refine cw_ald (pc1 := 18) rfl (by omega) g4 rfl q5a q5b rfl ?_
      obtain ⟨x6, e6, hh⟩ := hh
      rw [e6]
      refine w_mv (pc1 := 22) (st1 := [.ref x6]) rfl rfl rfl ?_
      refine w_aret (pc1 := 5) rfl rfl rfl rfl ?_
      refine w_mv (pc1 := 6) (lv1 := [(2, .ref x6), (0, .ref x0), (1, .int p1)]) (st1 := []) rfl rfl rfl ?_
      refine w_mv (pc1 := 7) (st1 := [.ref x6]) rfl rfl rfl ?_
      refine w_mv (pc1 := 12) (st1 := []) rfl rfl rfl ?_
      refine w_mv (pc1 := 13) (st1 := [.int p1]) rfl rfl rfl ?_
      refine w_mv (pc1 := 14) (st1 := [.int 1, .int p1]) rfl rfl rfl ?_
      refine w_mv (pc1 := 15) (st1 := [.int (p1 + 1)]) rfl rfl rfl ?_
      refine w_mv (pc1 := 16) (lv1 := [(3, .int (p1 + 1)), (2, .ref x6), (0, .ref x0), (1, .int p1)]) (st1 := []) rfl rfl rfl ?_
      refine w_wk (l1 := [(0, .ref x0), (1, .int p1), (2, .ref x6), (3, .int (p1 + 1))]) rfl ⟨rfl, rfl, rfl, rfl, trivial⟩ ?_
      refine hh d _ _ P (fun r N1 G1 kc1 ks1 q => ?_)
      exact c_acc (hP r N1 G1 _ _ q) (by omega) (by omega)
set_option maxRecDepth 20000 in
set_option maxHeartbeats 4000000 in
theorem k_50_16 {y0 : Nat} {p1 : Int32} {y2 : Nat} {p3 : Int32} {N : Nat} {G : Nat → sx_C} {K : Option Value ⊕ Nat → Nat → (Nat → sx_C) → Nat → Nat → Prop} (hh : 5 ≤ y0 ∧ y0 < N ∧ ∃ (i1_1 : Int32), G y0 = .inr (.inl (6, [.ref (y0 + 1), .int i1_1])) ∧ ((i1_1.toInt ≤ p3.toInt → K (.inl (some (.ref y2))) (N) (va_up G y0 (.inr (.inl (6, [.ref (y0 + 1), .int (i1_1 - 1)])))) (0) (0)) ∧ (p3.toInt < i1_1.toInt → 5 ≤ y0 + 1 ∧ y0 + 1 < N ∧ ∃ (f4 : Nat → Option Nat), G (y0 + 1) = .inl (7, (61, .inr (.inr (.inr (.inr f4))))) ∧ 0 ≤ p3.toInt ∧ p3.toInt < (61 : Nat) ∧ ∃ x6, f4 p3.toNatClampNeg = some x6 ∧ 0 ≤ (p3 - 1).toInt ∧ (p3 - 1).toInt < (61 : Nat) ∧ 5 ≤ x6 ∧ x6 < N ∧ ∃ (i8_0 : Int32) (i8_1 : Int32) (o8_2 : Option Nat) (o8_3 : Option Nat) (o8_4 : Option Nat) (i8_6 : Int32), G x6 = .inr (.inl (11, [.int i8_0, .int i8_1, va_rf o8_2, va_rf o8_3, va_rf o8_4, .ref (x6 + 1), .int i8_6])) ∧ cT (2) sM_50 16 [(0, .ref y0), (1, .int p1), (2, .ref y2), (3, .int (p3 + 1))] [] (N) (va_up G (y0 + 1) (.inl (7, (61, .inr (.inr (.inr (.inr (va_up f4 (p3 - 1).toNatClampNeg (some x6))))))))) (fun r N1 G1 kc1 ks1 => K r N1 G1 (kc1) (ks1))))) : cT (2) sM_50 16 [(0, .ref y0), (1, .int p1), (2, .ref y2), (3, .int p3)] [] N G K := by
  intro d dc ds P hP
  refine w_mv (pc1 := 17) (st1 := [.int p3]) rfl rfl rfl ?_
  refine w_mv (pc1 := 18) (st1 := [.ref y0, .int p3]) rfl rfl rfl ?_
  obtain ⟨b1a, b1b, i1_1, g1, hh⟩ := hh
  refine cw_gf (v := .int i1_1) (pc1 := 21) rfl (by omega) (by omega) g1 rfl rfl ?_
  by_cases h2 : i1_1.toInt ≤ p3.toInt
  ·
    replace hh := hh.1 h2
    refine w_ige_T (pc1 := 44) rfl rfl (show i1_1.toInt ≤ p3.toInt from h2) ?_
    refine w_mv (pc1 := 45) (st1 := [.ref y0]) rfl rfl rfl ?_
    refine w_mv (pc1 := 46) (st1 := [.ref y0, .ref y0]) rfl rfl rfl ?_
    refine cw_gf (v := .int i1_1) (pc1 := 49) rfl (by omega) (by omega) g1 rfl rfl ?_
    refine w_mv (pc1 := 50) (st1 := [.int 1, .int i1_1, .ref y0]) rfl rfl rfl ?_
    refine w_mv (pc1 := 51) (st1 := [.int (i1_1 - 1), .ref y0]) rfl rfl rfl ?_
    refine cw_pf (c1 := .inr (.inl (6, [.ref (y0 + 1), .int (i1_1 - 1)]))) (pc1 := 54) rfl (by omega) (by omega) g1 rfl rfl rfl rfl ?_
    have g3 : (va_up G y0 (.inr (.inl (6, [.ref (y0 + 1), .int (i1_1 - 1)])))) y0 = .inr (.inl (6, [.ref (y0 + 1), .int (i1_1 - 1)])) := up_eq
    refine w_mv (pc1 := 55) (st1 := [.ref y2]) rfl rfl rfl ?_
    refine sx_wp.stop rfl rfl rfl ?_
    exact c_acc (hP _ _ _ _ _ hh) (by omega) (by omega)
  ·
    replace hh := hh.2 (Int.not_le.mp h2)
    refine w_ige_F (pc1 := 24) rfl (by decide) rfl (show p3.toInt < i1_1.toInt from (Int.not_le.mp h2)) ?_
    refine w_mv (pc1 := 25) (st1 := [.ref y0]) rfl rfl rfl ?_
    refine cw_gf (v := .ref (y0 + 1)) (pc1 := 28) rfl (by omega) (by omega) g1 rfl rfl ?_
    refine w_mv (pc1 := 29) (st1 := [.int p3, .ref (y0 + 1)]) rfl rfl rfl ?_
    refine w_mv (pc1 := 30) (st1 := [.int 1, .int p3, .ref (y0 + 1)]) rfl rfl rfl ?_
    refine w_mv (pc1 := 31) (st1 := [.int (p3 - 1), .ref (y0 + 1)]) rfl rfl rfl ?_
    refine w_mv (pc1 := 32) (st1 := [.ref y0, .int (p3 - 1), .ref (y0 + 1)]) rfl rfl rfl ?_
    refine cw_gf (v := .ref (y0 + 1)) (pc1 := 35) rfl (by omega) (by omega) g1 rfl rfl ?_
    refine w_mv (pc1 := 36) (st1 := [.int p3, .ref (y0 + 1), .int (p3 - 1), .ref (y0 + 1)]) rfl rfl rfl ?_
    obtain ⟨b4a, b4b, f4, g4, hh⟩ := hh
    obtain ⟨q5a, q5b, hh⟩ := hh
    refine cw_ald (pc1 := 37) rfl (by omega) g4 rfl q5a q5b rfl ?_
    obtain ⟨x6, e6, hh⟩ := hh
    rw [e6]
    obtain ⟨q7a, q7b, hh⟩ := hh
    obtain ⟨b8a, b8b, i8_0, i8_1, o8_2, o8_3, o8_4, i8_6, g8, hh⟩ := hh
    refine cw_as (pc1 := 38) rfl (by omega) (by omega) g4 (by omega) (by omega) g8 rfl q7a q7b rfl ?_
    have g9 : (va_up G (y0 + 1) (.inl (7, (61, .inr (.inr (.inr (.inr (va_up f4 (p3 - 1).toNatClampNeg (some x6))))))))) y0 = .inr (.inl (6, [.ref (y0 + 1), .int i1_1])) := (va_ne (ne_oa g1 g4)).trans g1
    have g10 : (va_up G (y0 + 1) (.inl (7, (61, .inr (.inr (.inr (.inr (va_up f4 (p3 - 1).toNatClampNeg (some x6))))))))) x6 = .inr (.inl (11, [.int i8_0, .int i8_1, va_rf o8_2, va_rf o8_3, va_rf o8_4, .ref (x6 + 1), .int i8_6])) := (va_ne (ne_oa g8 g4)).trans g8
    have g11 : (va_up G (y0 + 1) (.inl (7, (61, .inr (.inr (.inr (.inr (va_up f4 (p3 - 1).toNatClampNeg (some x6))))))))) (y0 + 1) = .inl (7, (61, .inr (.inr (.inr (.inr (va_up f4 (p3 - 1).toNatClampNeg (some x6))))))) := up_eq
    refine w_mv (pc1 := 41) (lv1 := [(3, .int (p3 + 1)), (0, .ref y0), (1, .int p1), (2, .ref y2)]) (st1 := []) rfl rfl rfl ?_
    refine w_mv (pc1 := 16) (st1 := []) rfl rfl rfl ?_
    refine w_wk (l1 := [(0, .ref y0), (1, .int p1), (2, .ref y2), (3, .int (p3 + 1))]) rfl ⟨rfl, rfl, rfl, rfl, trivial⟩ ?_
    refine hh d _ _ P (fun r N1 G1 kc1 ks1 q => ?_)
    exact c_acc (hP r N1 G1 _ _ q) (by omega) (by omega)
set_option maxRecDepth 20000 in
set_option maxHeartbeats 4000000 in
theorem k_55_0 {y1 : Nat} {p2 : Int32} {N : Nat} {G : Nat → sx_C} {K : Option Value ⊕ Nat → Nat → (Nat → sx_C) → Nat → Nat → Prop} (hh : 9 < N ∧ ∃ (i1_5 : Int32) (i1_6 : Int32) (i1_7 : Int32), G 9 = .inr (.inl (2, [.ref 10, .ref 17, .ref 18, .ref 20, .ref 22, .int i1_5, .int i1_6, .int i1_7])) ∧ 5 ≤ y1 ∧ y1 < N ∧ ∃ (i2_0 : Int32) (i2_1 : Int32) (r2_2 : Nat) (o2_3 : Option Nat) (o2_4 : Option Nat), G y1 = .inr (.inl (9, [.int i2_0, .int i2_1, .ref r2_2, va_rf o2_3, va_rf o2_4])) ∧ 10 < N ∧ ∃ (i3_3 : Int32) (o3_4 : Option Nat), G 10 = .inr (.inl (3, [.ref 11, .ref 13, .ref 16, .int i3_3, va_rf o3_4])) ∧ cT (60) sM_56 0 [(0, .ref 10), (1, .ref r2_2)] [] (N) G (fun r4 N4 G4 kc4 ks4 => ∃ o4 : Option Nat, r4 = .inl (some (va_rf o4)) ∧ 5 ≤ y1 ∧ y1 < N4 ∧ ∃ (i5_0 : Int32) (i5_1 : Int32) (r5_2 : Nat) (o5_3 : Option Nat) (o5_4 : Option Nat), G4 y1 = .inr (.inl (9, [.int i5_0, .int i5_1, .ref r5_2, va_rf o5_3, va_rf o5_4])) ∧ ((o5_3 = none → cT (61) sM_55 36 [(0, .ref 9), (1, .ref y1), (2, .int p2), (3, va_rf o4), (4, va_rf none)] [] (N4) G4 (fun r N1 G1 kc1 ks1 => K r N1 G1 (kc4 + kc1) (ks4 + ks1))) ∧ (∀ x6, o5_3 = some x6 → 9 < N4 ∧ ∃ (i7_5 : Int32) (i7_6 : Int32) (i7_7 : Int32), G4 9 = .inr (.inl (2, [.ref 10, .ref 17, .ref 18, .ref 20, .ref 22, .int i7_5, .int i7_6, .int i7_7])) ∧ 10 < N4 ∧ ∃ (i8_3 : Int32) (o8_4 : Option Nat), G4 10 = .inr (.inl (3, [.ref 11, .ref 13, .ref 16, .int i8_3, va_rf o8_4])) ∧ cT (60) sM_56 0 [(0, .ref 10), (1, .ref x6)] [] (N4) G4 (fun r9 N9 G9 kc9 ks9 => ∃ o9 : Option Nat, r9 = .inl (some (va_rf o9)) ∧ cT (61) sM_55 36 [(0, .ref 9), (1, .ref y1), (2, .int p2), (3, va_rf o4), (4, va_rf o9)] [] (N9) G9 (fun r N1 G1 kc1 ks1 => K r N1 G1 (kc4 + kc9 + kc1) (ks4 + ks9 + ks1))))))) : cT (61) sM_55 0 [(0, .ref 9), (1, .ref y1), (2, .int p2)] [] N G K := by
  intro d dc ds P hP
  refine w_mv (pc1 := 1) (st1 := [.ref 9]) rfl rfl rfl ?_
  obtain ⟨b1b, i1_5, i1_6, i1_7, g1, hh⟩ := hh
  refine cw_gf (v := .ref 10) (pc1 := 4) rfl (by omega) (by omega) g1 rfl rfl ?_
  refine w_mv (pc1 := 5) (st1 := [.ref y1, .ref 10]) rfl rfl rfl ?_
  obtain ⟨b2a, b2b, i2_0, i2_1, r2_2, o2_3, o2_4, g2, hh⟩ := hh
  refine cw_gf (v := .ref r2_2) (pc1 := 8) rfl (by omega) (by omega) g2 rfl rfl ?_
  obtain ⟨b3b, i3_3, o3_4, g3, hh⟩ := hh
  refine w_call (M' := sM_56) (vals := [.ref 10, .ref r2_2]) (rest := []) (lv' := [(0, .ref 10), (1, .ref r2_2)]) rfl rfl rfl rfl rfl rfl (cH_rcv (by omega) (by omega) g3) rfl rfl rfl ?_
  refine hh _ _ _ _ (fun r4 N4 G4 kc4 ks4 hh => ?_)
  obtain ⟨o4, er4, hh⟩ := hh
  subst er4
  refine w_kr (pc1 := 11) rfl ?_
  refine w_mv (pc1 := 12) (lv1 := [(3, va_rf o4), (0, .ref 9), (1, .ref y1), (2, .int p2)]) (st1 := []) rfl rfl (by cases o4 <;> rfl) ?_
  refine w_mv (pc1 := 13) (st1 := [.ref y1]) rfl rfl rfl ?_
  obtain ⟨b5a, b5b, i5_0, i5_1, r5_2, o5_3, o5_4, g5, hh⟩ := hh
  refine cw_gf (v := va_rf o5_3) (pc1 := 16) rfl (by omega) (by omega) g5 rfl rfl ?_
  cases o5_3 with
  | none =>
    replace hh := hh.1 rfl
    refine w_mv (pc1 := 19) (st1 := []) rfl rfl rfl ?_
    refine w_mv (pc1 := 20) (st1 := [.null]) rfl rfl rfl ?_
    refine w_mv (pc1 := 34) (st1 := [.null]) rfl rfl rfl ?_
    refine w_mv (pc1 := 36) (lv1 := [(4, .null), (3, va_rf o4), (0, .ref 9), (1, .ref y1), (2, .int p2)]) (st1 := []) rfl rfl (by cases o4 <;> rfl) ?_
    refine w_wk (l1 := [(0, .ref 9), (1, .ref y1), (2, .int p2), (3, va_rf o4), (4, va_rf none)]) rfl ⟨rfl, rfl, rfl, rfl, rfl, trivial⟩ ?_
    refine hh d _ _ P (fun r N1 G1 kc1 ks1 q => ?_)
    exact c_acc (hP r N1 G1 _ _ q) (by omega) (by omega)
  | some x6 =>
    replace hh := hh.2 x6 rfl
    refine w_mv (pc1 := 23) (st1 := []) rfl rfl rfl ?_
    refine w_mv (pc1 := 24) (st1 := [.ref 9]) rfl rfl rfl ?_
    obtain ⟨b7b, i7_5, i7_6, i7_7, g7, hh⟩ := hh
    refine cw_gf (v := .ref 10) (pc1 := 27) rfl (by omega) (by omega) g7 rfl rfl ?_
    refine w_mv (pc1 := 28) (st1 := [.ref y1, .ref 10]) rfl rfl rfl ?_
    refine cw_gf (v := .ref x6) (pc1 := 31) rfl (by omega) (by omega) g5 rfl rfl ?_
    obtain ⟨b8b, i8_3, o8_4, g8, hh⟩ := hh
    refine w_call (M' := sM_56) (vals := [.ref 10, .ref x6]) (rest := []) (lv' := [(0, .ref 10), (1, .ref x6)]) rfl rfl rfl rfl rfl rfl (cH_rcv (by omega) (by omega) g8) rfl rfl rfl ?_
    refine hh _ _ _ _ (fun r9 N9 G9 kc9 ks9 hh => ?_)
    obtain ⟨o9, er9, hh⟩ := hh
    subst er9
    refine w_kr (pc1 := 34) rfl ?_
    refine w_mv (pc1 := 36) (lv1 := [(4, va_rf o9), (3, va_rf o4), (0, .ref 9), (1, .ref y1), (2, .int p2)]) (st1 := []) rfl rfl (by cases o9 <;> cases o4 <;> rfl) ?_
    refine w_wk (l1 := [(0, .ref 9), (1, .ref y1), (2, .int p2), (3, va_rf o4), (4, va_rf o9)]) rfl ⟨rfl, rfl, rfl, rfl, rfl, trivial⟩ ?_
    refine hh d _ _ P (fun r N1 G1 kc1 ks1 q => ?_)
    exact c_acc (hP r N1 G1 _ _ q) (by omega) (by omega)
set_option maxRecDepth 20000 in
set_option maxHeartbeats 4000000 in
theorem k_55_36 {y1 : Nat} {p2 : Int32} {o0_3 : Option Nat} {o0_4 : Option Nat} {N : Nat} {G : Nat → sx_C} {K : Option Value ⊕ Nat → Nat → (Nat → sx_C) → Nat → Nat → Prop} (hh : 5 ≤ y1 ∧ y1 < N ∧ ∃ (i1_0 : Int32) (i1_1 : Int32) (r1_2 : Nat) (o1_3 : Option Nat) (o1_4 : Option Nat), G y1 = .inr (.inl (9, [.int i1_0, .int i1_1, .ref r1_2, va_rf o1_3, va_rf o1_4])) ∧ ((o1_4 = none → cT (61) sM_55 60 [(0, .ref 9), (1, .ref y1), (2, .int p2), (3, va_rf o0_3), (4, va_rf o0_4), (5, va_rf none)] [] (N) G (fun r N1 G1 kc1 ks1 => K r N1 G1 (kc1) (ks1))) ∧ (∀ x2, o1_4 = some x2 → 9 < N ∧ ∃ (i3_5 : Int32) (i3_6 : Int32) (i3_7 : Int32), G 9 = .inr (.inl (2, [.ref 10, .ref 17, .ref 18, .ref 20, .ref 22, .int i3_5, .int i3_6, .int i3_7])) ∧ 10 < N ∧ ∃ (i4_3 : Int32) (o4_4 : Option Nat), G 10 = .inr (.inl (3, [.ref 11, .ref 13, .ref 16, .int i4_3, va_rf o4_4])) ∧ cT (60) sM_56 0 [(0, .ref 10), (1, .ref x2)] [] (N) G (fun r5 N5 G5 kc5 ks5 => ∃ o5 : Option Nat, r5 = .inl (some (va_rf o5)) ∧ cT (61) sM_55 60 [(0, .ref 9), (1, .ref y1), (2, .int p2), (3, va_rf o0_3), (4, va_rf o0_4), (5, va_rf o5)] [] (N5) G5 (fun r N1 G1 kc1 ks1 => K r N1 G1 (kc5 + kc1) (ks5 + ks1)))))) : cT (61) sM_55 36 [(0, .ref 9), (1, .ref y1), (2, .int p2), (3, va_rf o0_3), (4, va_rf o0_4)] [] N G K := by
  intro d dc ds P hP
  refine w_mv (pc1 := 37) (st1 := [.ref y1]) rfl rfl rfl ?_
  obtain ⟨b1a, b1b, i1_0, i1_1, r1_2, o1_3, o1_4, g1, hh⟩ := hh
  refine cw_gf (v := va_rf o1_4) (pc1 := 40) rfl (by omega) (by omega) g1 rfl rfl ?_
  cases o1_4 with
  | none =>
    replace hh := hh.1 rfl
    refine w_mv (pc1 := 43) (st1 := []) rfl rfl rfl ?_
    refine w_mv (pc1 := 44) (st1 := [.null]) rfl rfl rfl ?_
    refine w_mv (pc1 := 58) (st1 := [.null]) rfl rfl rfl ?_
    refine w_mv (pc1 := 60) (lv1 := [(5, .null), (0, .ref 9), (1, .ref y1), (2, .int p2), (3, va_rf o0_3), (4, va_rf o0_4)]) (st1 := []) rfl rfl (by cases o0_4 <;> rfl) ?_
    refine w_wk (l1 := [(0, .ref 9), (1, .ref y1), (2, .int p2), (3, va_rf o0_3), (4, va_rf o0_4), (5, va_rf none)]) rfl ⟨rfl, rfl, rfl, rfl, rfl, rfl, trivial⟩ ?_
    refine hh d _ _ P (fun r N1 G1 kc1 ks1 q => ?_)
    exact c_acc (hP r N1 G1 _ _ q) (by omega) (by omega)
  | some x2 =>
    replace hh := hh.2 x2 rfl
    refine w_mv (pc1 := 47) (st1 := []) rfl rfl rfl ?_
    refine w_mv (pc1 := 48) (st1 := [.ref 9]) rfl rfl rfl ?_
    obtain ⟨b3b, i3_5, i3_6, i3_7, g3, hh⟩ := hh
    refine cw_gf (v := .ref 10) (pc1 := 51) rfl (by omega) (by omega) g3 rfl rfl ?_
    refine w_mv (pc1 := 52) (st1 := [.ref y1, .ref 10]) rfl rfl rfl ?_
    refine cw_gf (v := .ref x2) (pc1 := 55) rfl (by omega) (by omega) g1 rfl rfl ?_
    obtain ⟨b4b, i4_3, o4_4, g4, hh⟩ := hh
    refine w_call (M' := sM_56) (vals := [.ref 10, .ref x2]) (rest := []) (lv' := [(0, .ref 10), (1, .ref x2)]) rfl rfl rfl rfl rfl rfl (cH_rcv (by omega) (by omega) g4) rfl rfl rfl ?_
    refine hh _ _ _ _ (fun r5 N5 G5 kc5 ks5 hh => ?_)
    obtain ⟨o5, er5, hh⟩ := hh
    subst er5
    refine w_kr (pc1 := 58) rfl ?_
    refine w_mv (pc1 := 60) (lv1 := [(5, va_rf o5), (0, .ref 9), (1, .ref y1), (2, .int p2), (3, va_rf o0_3), (4, va_rf o0_4)]) (st1 := []) rfl rfl (by cases o5 <;> cases o0_4 <;> rfl) ?_
    refine w_wk (l1 := [(0, .ref 9), (1, .ref y1), (2, .int p2), (3, va_rf o0_3), (4, va_rf o0_4), (5, va_rf o5)]) rfl ⟨rfl, rfl, rfl, rfl, rfl, rfl, trivial⟩ ?_
    refine hh d _ _ P (fun r N1 G1 kc1 ks1 q => ?_)
    exact c_acc (hP r N1 G1 _ _ q) (by omega) (by omega)
set_option maxRecDepth 20000 in
set_option maxHeartbeats 4000000 in
theorem k_55_60 {y1 : Nat} {p2 : Int32} {o0_3 : Option Nat} {o0_4 : Option Nat} {o0_5 : Option Nat} {N : Nat} {G : Nat → sx_C} {K : Option Value ⊕ Nat → Nat → (Nat → sx_C) → Nat → Nat → Prop} (hh : 9 < N ∧ ∃ (i1_5 : Int32) (i1_6 : Int32) (i1_7 : Int32), G 9 = .inr (.inl (2, [.ref 10, .ref 17, .ref 18, .ref 20, .ref 22, .int i1_5, .int i1_6, .int i1_7])) ∧ cT (2) sM_10 0 [(0, .ref 9)] [] (N) G (fun r2 N2 G2 kc2 ks2 => N = N2 ∧ G = G2 ∧ 0 = kc2 ∧ 0 = ks2 ∧ ∃ v2 : Int32, r2 = .inl (some (.int v2)) ∧ 18 < N ∧ ∃ (i3_1 : Int32), G 18 = .inr (.inl (6, [.ref 19, .int i3_1])) ∧ (((v2 + i3_1).toInt < 60 → 20 < N ∧ ∃ (i5_1 : Int32), G 20 = .inr (.inl (6, [.ref 21, .int i5_1])) ∧ ((i5_1.toInt ≤ 0 → 5 ≤ N ∧ cT (61) sM_55 117 [(0, .ref 9), (1, .ref y1), (2, .int p2), (3, va_rf o0_3), (4, va_rf o0_4), (5, va_rf o0_5), (6, va_rf (some N))] [] (N + 1 + 1) (va_up (va_up (va_up G N (.inr (.inl (11, [.int 0, .int 0, .null, .null, .null, .null, .int 0])))) (N + 1) (.inl (6, (12, .inr (.inr (.inr (.inr (fun _ => none)))))))) N (.inr (.inl (11, [.int 0, .int 0, .null, .null, .null, .ref (N + 1), .int 0])))) (fun r N1 G1 kc1 ks1 => K r N1 G1 (kc1 + 2) (ks1 + 19))) ∧ (0 < i5_1.toInt → cT (2) sM_50 0 [(0, .ref 20), (1, .int (i5_1 - 1))] [] (N) G (fun r22 N22 G22 kc22 ks22 => ∃ o22 : Option Nat, r22 = .inl (some (va_rf o22)) ∧ cT (61) sM_55 117 [(0, .ref 9), (1, .ref y1), (2, .int p2), (3, va_rf o0_3), (4, va_rf o0_4), (5, va_rf o0_5), (6, va_rf o22)] [] (N22) G22 (fun r N1 G1 kc1 ks1 => K r N1 G1 (kc22 + kc1) (ks22 + ks1)))))) ∧ (60 ≤ (v2 + i3_1).toInt → K (.inl (some (.int 3))) (N) G (0) (0))))) : cT (61) sM_55 60 [(0, .ref 9), (1, .ref y1), (2, .int p2), (3, va_rf o0_3), (4, va_rf o0_4), (5, va_rf o0_5)] [] N G K := by
  intro d dc ds P hP
  refine w_mv (pc1 := 61) (st1 := [.ref 9]) rfl rfl rfl ?_
  obtain ⟨b1b, i1_5, i1_6, i1_7, g1, hh⟩ := hh
  refine w_call (M' := sM_10) (vals := [.ref 9]) (rest := []) (lv' := [(0, .ref 9)]) rfl rfl rfl rfl rfl rfl (cH_rcv (by omega) (by omega) g1) rfl rfl rfl ?_
  refine hh _ _ _ _ (fun r2 N2 G2 kc2 ks2 hh => ?_)
  obtain ⟨eN2, eG2, ek2, es2, hh⟩ := hh
  subst eN2
  subst eG2
  subst ek2
  subst es2
  obtain ⟨v2, er2, hh⟩ := hh
  subst er2
  refine w_ki (pc1 := 64) rfl ?_
  refine w_mv (pc1 := 65) (st1 := [.ref 9, .int v2]) rfl rfl rfl ?_
  refine cw_gf (v := .ref 18) (pc1 := 68) rfl (by omega) (by omega) g1 rfl rfl ?_
  obtain ⟨b3b, i3_1, g3, hh⟩ := hh
  refine w_call (M' := sM_11) (vals := [.ref 18]) (rest := [.int v2]) (lv' := [(0, .ref 18)]) rfl rfl rfl rfl rfl rfl (cH_rcv (by omega) (by omega) g3) rfl rfl rfl ?_
  refine w_mv (pc1 := 1) (st1 := [.ref 18]) rfl rfl rfl ?_
  refine cw_gf (v := .int i3_1) (pc1 := 4) rfl (by omega) (by omega) g3 rfl rfl ?_
  refine w_iret (pc1 := 71) rfl rfl rfl rfl ?_
  refine w_mv (pc1 := 72) (st1 := [.int (v2 + i3_1)]) rfl rfl rfl ?_
  refine w_mv (pc1 := 74) (st1 := [.int 60, .int (v2 + i3_1)]) rfl rfl rfl ?_
  by_cases h4 : (v2 + i3_1).toInt < 60
  ·
    replace hh := hh.1 h4
    refine w_ilt_T (pc1 := 79) rfl rfl (show (v2 + i3_1).toInt < 60 from h4) ?_
    refine w_mv (pc1 := 80) (st1 := [.ref 9]) rfl rfl rfl ?_
    refine cw_gf (v := .ref 20) (pc1 := 83) rfl (by omega) (by omega) g1 rfl rfl ?_
    obtain ⟨b5b, i5_1, g5, hh⟩ := hh
    refine w_call (M' := sM_11) (vals := [.ref 20]) (rest := []) (lv' := [(0, .ref 20)]) rfl rfl rfl rfl rfl rfl (cH_rcv (by omega) (by omega) g5) rfl rfl rfl ?_
    refine w_mv (pc1 := 1) (st1 := [.ref 20]) rfl rfl rfl ?_
    refine cw_gf (v := .int i5_1) (pc1 := 4) rfl (by omega) (by omega) g5 rfl rfl ?_
    refine w_iret (pc1 := 86) rfl rfl rfl rfl ?_
    by_cases h6 : i5_1.toInt ≤ 0
    ·
      replace hh := hh.1 h6
      refine w_zle_T (pc1 := 108) rfl rfl (show i5_1.toInt ≤ 0 from h6) ?_
      obtain ⟨q7a, hh⟩ := hh
      refine cw_new (k := 7) (c1 := .inr (.inl (11, [.int 0, .int 0, .null, .null, .null, .null, .int 0]))) (pc1 := 111) rfl rfl rfl rfl ?_
      have g8 : (va_up G N (.inr (.inl (11, [.int 0, .int 0, .null, .null, .null, .null, .int 0])))) 9 = .inr (.inl (2, [.ref 10, .ref 17, .ref 18, .ref 20, .ref 22, .int i1_5, .int i1_6, .int i1_7])) := (va_ne (by omega)).trans g1
      have g9 : (va_up G N (.inr (.inl (11, [.int 0, .int 0, .null, .null, .null, .null, .int 0])))) 18 = .inr (.inl (6, [.ref 19, .int i3_1])) := (va_ne (by omega)).trans g3
      have g10 : (va_up G N (.inr (.inl (11, [.int 0, .int 0, .null, .null, .null, .null, .int 0])))) 20 = .inr (.inl (6, [.ref 21, .int i5_1])) := (va_ne (by omega)).trans g5
      have g11 : (va_up G N (.inr (.inl (11, [.int 0, .int 0, .null, .null, .null, .null, .int 0])))) N = .inr (.inl (11, [.int 0, .int 0, .null, .null, .null, .null, .int 0])) := up_eq
      refine w_mv (pc1 := 112) (st1 := [.ref N, .ref N]) rfl rfl rfl ?_
      refine w_call (M' := sM_63) (vals := [.ref N]) (rest := [.ref N]) (lv' := [(0, .ref N)]) rfl rfl rfl rfl rfl rfl rfl rfl rfl rfl ?_
      refine w_mv (pc1 := 1) (st1 := [.ref N]) rfl rfl rfl ?_
      refine w_obj (pc1 := 4) (st1 := []) rfl rfl rfl ⟨by omega, Nat.le_of_ble_eq_true rfl⟩ rfl ?_
      refine w_mv (pc1 := 5) (st1 := [.ref N]) rfl rfl rfl ?_
      refine w_mv (pc1 := 7) (st1 := [.int 12, .ref N]) rfl rfl rfl ?_
      refine cw_newq (n := 12) (pc1 := 10) rfl rfl (by decide) (by decide) (by decide) ?_
      have g12 : (va_up (va_up G N (.inr (.inl (11, [.int 0, .int 0, .null, .null, .null, .null, .int 0])))) (N + 1) (.inl (6, (12, .inr (.inr (.inr (.inr (fun _ => none)))))))) 9 = .inr (.inl (2, [.ref 10, .ref 17, .ref 18, .ref 20, .ref 22, .int i1_5, .int i1_6, .int i1_7])) := (va_ne (by omega)).trans g8
      have g13 : (va_up (va_up G N (.inr (.inl (11, [.int 0, .int 0, .null, .null, .null, .null, .int 0])))) (N + 1) (.inl (6, (12, .inr (.inr (.inr (.inr (fun _ => none)))))))) 18 = .inr (.inl (6, [.ref 19, .int i3_1])) := (va_ne (by omega)).trans g9
      have g14 : (va_up (va_up G N (.inr (.inl (11, [.int 0, .int 0, .null, .null, .null, .null, .int 0])))) (N + 1) (.inl (6, (12, .inr (.inr (.inr (.inr (fun _ => none)))))))) 20 = .inr (.inl (6, [.ref 21, .int i5_1])) := (va_ne (by omega)).trans g10
      have g15 : (va_up (va_up G N (.inr (.inl (11, [.int 0, .int 0, .null, .null, .null, .null, .int 0])))) (N + 1) (.inl (6, (12, .inr (.inr (.inr (.inr (fun _ => none)))))))) N = .inr (.inl (11, [.int 0, .int 0, .null, .null, .null, .null, .int 0])) := (va_ne (by omega)).trans g11
      have g16 : (va_up (va_up G N (.inr (.inl (11, [.int 0, .int 0, .null, .null, .null, .null, .int 0])))) (N + 1) (.inl (6, (12, .inr (.inr (.inr (.inr (fun _ => none)))))))) (N + 1) = .inl (6, (12, .inr (.inr (.inr (.inr (fun _ => none)))))) := up_eq
      refine cw_pf (c1 := .inr (.inl (11, [.int 0, .int 0, .null, .null, .null, .ref (N + 1), .int 0]))) (pc1 := 13) rfl (by omega) (by omega) g15 rfl rfl rfl rfl ?_
      have g17 : (va_up (va_up (va_up G N (.inr (.inl (11, [.int 0, .int 0, .null, .null, .null, .null, .int 0])))) (N + 1) (.inl (6, (12, .inr (.inr (.inr (.inr (fun _ => none)))))))) N (.inr (.inl (11, [.int 0, .int 0, .null, .null, .null, .ref (N + 1), .int 0])))) 9 = .inr (.inl (2, [.ref 10, .ref 17, .ref 18, .ref 20, .ref 22, .int i1_5, .int i1_6, .int i1_7])) := (va_ne (ne_ob g12 g15 (by decide))).trans g12
      have g18 : (va_up (va_up (va_up G N (.inr (.inl (11, [.int 0, .int 0, .null, .null, .null, .null, .int 0])))) (N + 1) (.inl (6, (12, .inr (.inr (.inr (.inr (fun _ => none)))))))) N (.inr (.inl (11, [.int 0, .int 0, .null, .null, .null, .ref (N + 1), .int 0])))) 18 = .inr (.inl (6, [.ref 19, .int i3_1])) := (va_ne (ne_ob g13 g15 (by decide))).trans g13
      have g19 : (va_up (va_up (va_up G N (.inr (.inl (11, [.int 0, .int 0, .null, .null, .null, .null, .int 0])))) (N + 1) (.inl (6, (12, .inr (.inr (.inr (.inr (fun _ => none)))))))) N (.inr (.inl (11, [.int 0, .int 0, .null, .null, .null, .ref (N + 1), .int 0])))) 20 = .inr (.inl (6, [.ref 21, .int i5_1])) := (va_ne (ne_ob g14 g15 (by decide))).trans g14
      have g20 : (va_up (va_up (va_up G N (.inr (.inl (11, [.int 0, .int 0, .null, .null, .null, .null, .int 0])))) (N + 1) (.inl (6, (12, .inr (.inr (.inr (.inr (fun _ => none)))))))) N (.inr (.inl (11, [.int 0, .int 0, .null, .null, .null, .ref (N + 1), .int 0])))) (N + 1) = .inl (6, (12, .inr (.inr (.inr (.inr (fun _ => none)))))) := (va_ne (ne_ao g16 g15)).trans g16
      have g21 : (va_up (va_up (va_up G N (.inr (.inl (11, [.int 0, .int 0, .null, .null, .null, .null, .int 0])))) (N + 1) (.inl (6, (12, .inr (.inr (.inr (.inr (fun _ => none)))))))) N (.inr (.inl (11, [.int 0, .int 0, .null, .null, .null, .ref (N + 1), .int 0])))) N = .inr (.inl (11, [.int 0, .int 0, .null, .null, .null, .ref (N + 1), .int 0])) := up_eq
      refine w_vret (pc1 := 115) rfl rfl rfl ?_
      refine w_mv (pc1 := 117) (lv1 := [(6, .ref N), (0, .ref 9), (1, .ref y1), (2, .int p2), (3, va_rf o0_3), (4, va_rf o0_4), (5, va_rf o0_5)]) (st1 := []) rfl rfl (by cases o0_5 <;> rfl) ?_
      refine w_wk (l1 := [(0, .ref 9), (1, .ref y1), (2, .int p2), (3, va_rf o0_3), (4, va_rf o0_4), (5, va_rf o0_5), (6, va_rf (some N))]) rfl ⟨rfl, rfl, rfl, rfl, rfl, rfl, rfl, trivial⟩ ?_
      refine hh d _ _ P (fun r N1 G1 kc1 ks1 q => ?_)
      exact c_acc (hP r N1 G1 _ _ q) (by omega) (by omega)
    ·
      replace hh := hh.2 (Int.not_le.mp h6)
      refine w_zle_F (pc1 := 89) rfl (by decide) rfl (show 0 < i5_1.toInt from (Int.not_le.mp h6)) ?_
      refine w_mv (pc1 := 90) (st1 := [.ref 9]) rfl rfl rfl ?_
      refine cw_gf (v := .ref 20) (pc1 := 93) rfl (by omega) (by omega) g1 rfl rfl ?_
      refine w_mv (pc1 := 94) (st1 := [.ref 9, .ref 20]) rfl rfl rfl ?_
      refine cw_gf (v := .ref 20) (pc1 := 97) rfl (by omega) (by omega) g1 rfl rfl ?_
      refine w_call (M' := sM_11) (vals := [.ref 20]) (rest := [.ref 20]) (lv' := [(0, .ref 20)]) rfl rfl rfl rfl rfl rfl (cH_rcv (by omega) (by omega) g5) rfl rfl rfl ?_
      refine w_mv (pc1 := 1) (st1 := [.ref 20]) rfl rfl rfl ?_
      refine cw_gf (v := .int i5_1) (pc1 := 4) rfl (by omega) (by omega) g5 rfl rfl ?_
      refine w_iret (pc1 := 100) rfl rfl rfl rfl ?_
      refine w_mv (pc1 := 101) (st1 := [.int 1, .int i5_1, .ref 20]) rfl rfl rfl ?_
      refine w_mv (pc1 := 102) (st1 := [.int (i5_1 - 1), .ref 20]) rfl rfl rfl ?_
      refine w_call (M' := sM_50) (vals := [.ref 20, .int (i5_1 - 1)]) (rest := []) (lv' := [(0, .ref 20), (1, .int (i5_1 - 1))]) rfl rfl rfl rfl rfl rfl (cH_rcv (by omega) (by omega) g5) rfl rfl rfl ?_
      refine hh _ _ _ _ (fun r22 N22 G22 kc22 ks22 hh => ?_)
      obtain ⟨o22, er22, hh⟩ := hh
      subst er22
      refine w_kr (pc1 := 105) rfl ?_
      refine w_mv (pc1 := 115) (st1 := [va_rf o22]) rfl rfl rfl ?_
      refine w_mv (pc1 := 117) (lv1 := [(6, va_rf o22), (0, .ref 9), (1, .ref y1), (2, .int p2), (3, va_rf o0_3), (4, va_rf o0_4), (5, va_rf o0_5)]) (st1 := []) rfl rfl (by cases o22 <;> cases o0_5 <;> rfl) ?_
      refine w_wk (l1 := [(0, .ref 9), (1, .ref y1), (2, .int p2), (3, va_rf o0_3), (4, va_rf o0_4), (5, va_rf o0_5), (6, va_rf o22)]) rfl ⟨rfl, rfl, rfl, rfl, rfl, rfl, rfl, trivial⟩ ?_
      refine hh d _ _ P (fun r N1 G1 kc1 ks1 q => ?_)
      exact c_acc (hP r N1 G1 _ _ q) (by omega) (by omega)
  ·
    replace hh := hh.2 (Int.not_lt.mp h4)
    refine w_ilt_F (pc1 := 77) rfl (by decide) rfl (show 60 ≤ (v2 + i3_1).toInt from (Int.not_lt.mp h4)) ?_
    refine w_mv (pc1 := 78) (st1 := [.int 3]) rfl rfl rfl ?_
    refine sx_wp.stop rfl rfl rfl ?_
    exact c_acc (hP _ _ _ _ _ hh) (by omega) (by omega)
set_option maxRecDepth 20000 in
set_option maxHeartbeats 4000000 in
theorem k_55_117 {y1 : Nat} {p2 : Int32} {o0_3 : Option Nat} {o0_4 : Option Nat} {o0_5 : Option Nat} {o0_6 : Option Nat} {N : Nat} {G : Nat → sx_C} {K : Option Value ⊕ Nat → Nat → (Nat → sx_C) → Nat → Nat → Prop} (hh : 5 ≤ y1 ∧ y1 < N ∧ ∃ (i1_0 : Int32) (i1_1 : Int32) (r1_2 : Nat) (o1_3 : Option Nat) (o1_4 : Option Nat), G y1 = .inr (.inl (9, [.int i1_0, .int i1_1, .ref r1_2, va_rf o1_3, va_rf o1_4])) ∧ ((i1_1.toInt ≠ (-1) → ((o0_6 = none → False) ∧ (∀ x37, o0_6 = some x37 → 5 ≤ x37 ∧ x37 < N ∧ ∃ (i38_0 : Int32) (i38_1 : Int32) (o38_2 : Option Nat) (o38_3 : Option Nat) (o38_4 : Option Nat) (i38_6 : Int32), G x37 = .inr (.inl (11, [.int i38_0, .int i38_1, va_rf o38_2, va_rf o38_3, va_rf o38_4, .ref (x37 + 1), .int i38_6])) ∧ 9 < N ∧ ∃ (i51_5 : Int32) (i51_6 : Int32) (i51_7 : Int32), (va_up G x37 (.inr (.inl (11, [.int i1_0, .int i1_1, va_rf o0_3, va_rf o0_4, va_rf o0_5, .ref (x37 + 1), .int 0])))) 9 = .inr (.inl (2, [.ref 10, .ref 17, .ref 18, .ref 20, .ref 22, .int i51_5, .int i51_6, .int i51_7])) ∧ 17 < N ∧ ∃ (f52 : Nat → Option Nat), (va_up G x37 (.inr (.inl (11, [.int i1_0, .int i1_1, va_rf o0_3, va_rf o0_4, va_rf o0_5, .ref (x37 + 1), .int 0])))) 17 = .inl (5, (4, .inr (.inr (.inr (.inr f52))))) ∧ 0 ≤ i1_1.toInt ∧ i1_1.toInt < (4 : Nat) ∧ ∃ x54, f52 i1_1.toNatClampNeg = some x54 ∧ 5 ≤ x54 ∧ x54 < N ∧ ∃ (i55_1 : Int32), (va_up G x37 (.inr (.inl (11, [.int i1_0, .int i1_1, va_rf o0_3, va_rf o0_4, va_rf o0_5, .ref (x37 + 1), .int 0])))) x54 = .inr (.inl (6, [.ref (x54 + 1), .int i55_1])) ∧ 5 ≤ x54 + 1 ∧ x54 + 1 < N ∧ ∃ (f56 : Nat → Option Nat), (va_up G x37 (.inr (.inl (11, [.int i1_0, .int i1_1, va_rf o0_3, va_rf o0_4, va_rf o0_5, .ref (x37 + 1), .int 0])))) (x54 + 1) = .inl (7, (61, .inr (.inr (.inr (.inr f56))))) ∧ ((61 ≤ i55_1.toInt → K (.inl (some (.int 0))) (N) (va_up G x37 (.inr (.inl (11, [.int i1_0, .int i1_1, va_rf o0_3, va_rf o0_4, va_rf o0_5, .ref (x37 + 1), .int 0])))) (0) (0)) ∧ (i55_1.toInt < 61 → 0 ≤ i55_1.toInt ∧ i55_1.toInt < (61 : Nat) ∧ K (.inl (some (.int 0))) (N) (va_up (va_up (va_up G x37 (.inr (.inl (11, [.int i1_0, .int i1_1, va_rf o0_3, va_rf o0_4, va_rf o0_5, .ref (x37 + 1), .int 0])))) (x54 + 1) (.inl (7, (61, .inr (.inr (.inr (.inr (va_up f56 i55_1.toNatClampNeg (some x37))))))))) x54 (.inr (.inl (6, [.ref (x54 + 1), .int (i55_1 + 1)])))) (0) (0)))))) ∧ (i1_1.toInt = (-1) → ((o0_6 = none → False) ∧ (∀ x3, o0_6 = some x3 → 5 ≤ x3 ∧ x3 < N ∧ ∃ (i4_0 : Int32) (i4_1 : Int32) (o4_2 : Option Nat) (o4_3 : Option Nat) (o4_4 : Option Nat) (i4_6 : Int32), G x3 = .inr (.inl (11, [.int i4_0, .int i4_1, va_rf o4_2, va_rf o4_3, va_rf o4_4, .ref (x3 + 1), .int i4_6])) ∧ 9 < N ∧ ∃ (i17_5 : Int32) (i17_6 : Int32) (i17_7 : Int32), (va_up G x3 (.inr (.inl (11, [.int i1_0, .int p2, va_rf o0_3, va_rf o0_4, va_rf o0_5, .ref (x3 + 1), .int 0])))) 9 = .inr (.inl (2, [.ref 10, .ref 17, .ref 18, .ref 20, .ref 22, .int i17_5, .int i17_6, .int i17_7])) ∧ 17 < N ∧ ∃ (f18 : Nat → Option Nat), (va_up G x3 (.inr (.inl (11, [.int i1_0, .int p2, va_rf o0_3, va_rf o0_4, va_rf o0_5, .ref (x3 + 1), .int 0])))) 17 = .inl (5, (4, .inr (.inr (.inr (.inr f18))))) ∧ 0 ≤ p2.toInt ∧ p2.toInt < (4 : Nat) ∧ ∃ x20, f18 p2.toNatClampNeg = some x20 ∧ 5 ≤ x20 ∧ x20 < N ∧ ∃ (i21_1 : Int32), (va_up G x3 (.inr (.inl (11, [.int i1_0, .int p2, va_rf o0_3, va_rf o0_4, va_rf o0_5, .ref (x3 + 1), .int 0])))) x20 = .inr (.inl (6, [.ref (x20 + 1), .int i21_1])) ∧ 5 ≤ x20 + 1 ∧ x20 + 1 < N ∧ ∃ (f22 : Nat → Option Nat), (va_up G x3 (.inr (.inl (11, [.int i1_0, .int p2, va_rf o0_3, va_rf o0_4, va_rf o0_5, .ref (x3 + 1), .int 0])))) (x20 + 1) = .inl (7, (61, .inr (.inr (.inr (.inr f22))))) ∧ ((61 ≤ i21_1.toInt → K (.inl (some (.int 0))) (N) (va_up G x3 (.inr (.inl (11, [.int i1_0, .int p2, va_rf o0_3, va_rf o0_4, va_rf o0_5, .ref (x3 + 1), .int 0])))) (0) (0)) ∧ (i21_1.toInt < 61 → 0 ≤ i21_1.toInt ∧ i21_1.toInt < (61 : Nat) ∧ K (.inl (some (.int 0))) (N) (va_up (va_up (va_up G x3 (.inr (.inl (11, [.int i1_0, .int p2, va_rf o0_3, va_rf o0_4, va_rf o0_5, .ref (x3 + 1), .int 0])))) (x20 + 1) (.inl (7, (61, .inr (.inr (.inr (.inr (va_up f22 i21_1.toNatClampNeg (some x3))))))))) x20 (.inr (.inl (6, [.ref (x20 + 1), .int (i21_1 + 1)])))) (0) (0)))))))) : cT (61) sM_55 117 [(0, .ref 9), (1, .ref y1), (2, .int p2), (3, va_rf o0_3), (4, va_rf o0_4), (5, va_rf o0_5), (6, va_rf o0_6)] [] N G K := by
  intro d dc ds P hP
  refine w_mv (pc1 := 119) (lv1 := [(0, .ref 9), (1, .ref y1), (2, .int p2), (3, va_rf o0_3), (4, va_rf o0_4), (5, va_rf o0_5), (6, va_rf o0_6)]) (st1 := [va_rf o0_6]) rfl rfl (by cases o0_6 <;> rfl) ?_
  refine w_mv (pc1 := 120) (st1 := [.ref y1, va_rf o0_6]) rfl rfl rfl ?_
  obtain ⟨b1a, b1b, i1_0, i1_1, r1_2, o1_3, o1_4, g1, hh⟩ := hh
  refine cw_gf (v := .int i1_0) (pc1 := 123) rfl (by omega) (by omega) g1 rfl rfl ?_
  refine w_mv (pc1 := 124) (st1 := [.ref y1, .int i1_0, va_rf o0_6]) rfl rfl rfl ?_
  refine cw_gf (v := .int i1_1) (pc1 := 127) rfl (by omega) (by omega) g1 rfl rfl ?_
  refine w_mv (pc1 := 128) (st1 := [.int (-1), .int i1_1, .int i1_0, va_rf o0_6]) rfl rfl rfl ?_
  by_cases h2 : i1_1.toInt = (-1)
  ·
    replace hh := hh.2 h2
    refine w_ine_F (pc1 := 131) rfl (by decide) rfl (show i1_1.toInt = (-1) from h2) ?_
    refine w_mv (pc1 := 132) (st1 := [.int p2, .int i1_0, va_rf o0_6]) rfl rfl rfl ?_
    refine w_mv (pc1 := 139) (st1 := [.int p2, .int i1_0, va_rf o0_6]) rfl rfl rfl ?_
    cases o0_6 with
    | none =>
      replace hh := hh.1 rfl
      exact hh.elim
    | some x3 =>
      replace hh := hh.2 x3 rfl
      obtain ⟨b4a, b4b, i4_0, i4_1, o4_2, o4_3, o4_4, i4_6, g4, hh⟩ := hh
      refine w_call (M' := sM_64) (vals := [.ref x3, .int i1_0, .int p2]) (rest := []) (lv' := [(0, .ref x3), (1, .int i1_0), (2, .int p2)]) rfl rfl rfl rfl rfl rfl (cH_rcv (by omega) (by omega) g4) rfl rfl rfl ?_
      refine w_mv (pc1 := 1) (st1 := [.ref x3]) rfl rfl rfl ?_
      refine w_mv (pc1 := 2) (st1 := [.int i1_0, .ref x3]) rfl rfl rfl ?_
      refine cw_pf (c1 := .inr (.inl (11, [.int i1_0, .int i4_1, va_rf o4_2, va_rf o4_3, va_rf o4_4, .ref (x3 + 1), .int i4_6]))) (pc1 := 5) rfl (by omega) (by omega) g4 rfl rfl rfl rfl ?_
      have g5 : (va_up G x3 (.inr (.inl (11, [.int i1_0, .int i4_1, va_rf o4_2, va_rf o4_3, va_rf o4_4, .ref (x3 + 1), .int i4_6])))) y1 = .inr (.inl (9, [.int i1_0, .int i1_1, .ref r1_2, va_rf o1_3, va_rf o1_4])) := (va_ne (ne_ob g1 g4 (by decide))).trans g1
      have g6 : (va_up G x3 (.inr (.inl (11, [.int i1_0, .int i4_1, va_rf o4_2, va_rf o4_3, va_rf o4_4, .ref (x3 + 1), .int i4_6])))) x3 = .inr (.inl (11, [.int i1_0, .int i4_1, va_rf o4_2, va_rf o4_3, va_rf o4_4, .ref (x3 + 1), .int i4_6])) := up_eq
      refine w_mv (pc1 := 6) (st1 := [.ref x3]) rfl rfl rfl ?_
      refine w_mv (pc1 := 7) (st1 := [.int p2, .ref x3]) rfl rfl rfl ?_
      refine cw_pf (c1 := .inr (.inl (11, [.int i1_0, .int p2, va_rf o4_2, va_rf o4_3, va_rf o4_4, .ref (x3 + 1), .int i4_6]))) (pc1 := 10) rfl (by omega) (by omega) g6 rfl rfl rfl rfl ?_
      rw [va_uu]
      have g7 : (va_up G x3 (.inr (.inl (11, [.int i1_0, .int p2, va_rf o4_2, va_rf o4_3, va_rf o4_4, .ref (x3 + 1), .int i4_6])))) y1 = .inr (.inl (9, [.int i1_0, .int i1_1, .ref r1_2, va_rf o1_3, va_rf o1_4])) := (va_ne (ne_ob g5 g6 (by decide))).trans ((va_ne (ne_ob g5 g6 (by decide))).symm.trans g5)
      have g8 : (va_up G x3 (.inr (.inl (11, [.int i1_0, .int p2, va_rf o4_2, va_rf o4_3, va_rf o4_4, .ref (x3 + 1), .int i4_6])))) x3 = .inr (.inl (11, [.int i1_0, .int p2, va_rf o4_2, va_rf o4_3, va_rf o4_4, .ref (x3 + 1), .int i4_6])) := up_eq
      refine w_mv (pc1 := 11) (st1 := [.ref x3]) rfl rfl rfl ?_
      refine w_mv (pc1 := 12) (st1 := [.int 0, .ref x3]) rfl rfl rfl ?_
      refine cw_pf (c1 := .inr (.inl (11, [.int i1_0, .int p2, va_rf o4_2, va_rf o4_3, va_rf o4_4, .ref (x3 + 1), .int 0]))) (pc1 := 15) rfl (by omega) (by omega) g8 rfl rfl rfl rfl ?_
      rw [va_uu]
      have g9 : (va_up G x3 (.inr (.inl (11, [.int i1_0, .int p2, va_rf o4_2, va_rf o4_3, va_rf o4_4, .ref (x3 + 1), .int 0])))) y1 = .inr (.inl (9, [.int i1_0, .int i1_1, .ref r1_2, va_rf o1_3, va_rf o1_4])) := (va_ne (ne_ob g7 g8 (by decide))).trans ((va_ne (ne_ob g7 g8 (by decide))).symm.trans g7)
      have g10 : (va_up G x3 (.inr (.inl (11, [.int i1_0, .int p2, va_rf o4_2, va_rf o4_3, va_rf o4_4, .ref (x3 + 1), .int 0])))) x3 = .inr (.inl (11, [.int i1_0, .int p2, va_rf o4_2, va_rf o4_3, va_rf o4_4, .ref (x3 + 1), .int 0])) := up_eq
      refine w_vret (pc1 := 142) rfl rfl rfl ?_
      refine w_mv (pc1 := 144) (st1 := [.ref x3]) rfl rfl rfl ?_
      refine w_mv (pc1 := 145) (lv1 := [(0, .ref 9), (1, .ref y1), (2, .int p2), (3, va_rf o0_3), (4, va_rf o0_4), (5, va_rf o0_5), (6, .ref x3)]) (st1 := [va_rf o0_3, .ref x3]) rfl rfl (by cases o0_3 <;> rfl) ?_
      refine cw_pf (c1 := .inr (.inl (11, [.int i1_0, .int p2, va_rf o0_3, va_rf o4_3, va_rf o4_4, .ref (x3 + 1), .int 0]))) (pc1 := 148) rfl (by omega) (by omega) g10 rfl (by cases o0_3 <;> rfl) rfl rfl ?_
      rw [va_uu]
      have g11 : (va_up G x3 (.inr (.inl (11, [.int i1_0, .int p2, va_rf o0_3, va_rf o4_3, va_rf o4_4, .ref (x3 + 1), .int 0])))) y1 = .inr (.inl (9, [.int i1_0, .int i1_1, .ref r1_2, va_rf o1_3, va_rf o1_4])) := (va_ne (ne_ob g9 g10 (by decide))).trans ((va_ne (ne_ob g9 g10 (by decide))).symm.trans g9)
      have g12 : (va_up G x3 (.inr (.inl (11, [.int i1_0, .int p2, va_rf o0_3, va_rf o4_3, va_rf o4_4, .ref (x3 + 1), .int 0])))) x3 = .inr (.inl (11, [.int i1_0, .int p2, va_rf o0_3, va_rf o4_3, va_rf o4_4, .ref (x3 + 1), .int 0])) := up_eq
      refine w_mv (pc1 := 150) (st1 := [.ref x3]) rfl rfl rfl ?_
      refine w_mv (pc1 := 152) (lv1 := [(0, .ref 9), (1, .ref y1), (2, .int p2), (3, va_rf o0_3), (4, va_rf o0_4), (5, va_rf o0_5), (6, .ref x3)]) (st1 := [va_rf o0_4, .ref x3]) rfl rfl (by cases o0_4 <;> rfl) ?_
      refine cw_pf (c1 := .inr (.inl (11, [.int i1_0, .int p2, va_rf o0_3, va_rf o0_4, va_rf o4_4, .ref (x3 + 1), .int 0]))) (pc1 := 155) rfl (by omega) (by omega) g12 rfl (by cases o0_4 <;> rfl) rfl rfl ?_
      rw [va_uu]
      have g13 : (va_up G x3 (.inr (.inl (11, [.int i1_0, .int p2, va_rf o0_3, va_rf o0_4, va_rf o4_4, .ref (x3 + 1), .int 0])))) y1 = .inr (.inl (9, [.int i1_0, .int i1_1, .ref r1_2, va_rf o1_3, va_rf o1_4])) := (va_ne (ne_ob g11 g12 (by decide))).trans ((va_ne (ne_ob g11 g12 (by decide))).symm.trans g11)
      have g14 : (va_up G x3 (.inr (.inl (11, [.int i1_0, .int p2, va_rf o0_3, va_rf o0_4, va_rf o4_4, .ref (x3 + 1), .int 0])))) x3 = .inr (.inl (11, [.int i1_0, .int p2, va_rf o0_3, va_rf o0_4, va_rf o4_4, .ref (x3 + 1), .int 0])) := up_eq
      refine w_mv (pc1 := 157) (st1 := [.ref x3]) rfl rfl rfl ?_
      refine w_mv (pc1 := 159) (lv1 := [(0, .ref 9), (1, .ref y1), (2, .int p2), (3, va_rf o0_3), (4, va_rf o0_4), (5, va_rf o0_5), (6, .ref x3)]) (st1 := [va_rf o0_5, .ref x3]) rfl rfl (by cases o0_5 <;> rfl) ?_
      refine cw_pf (c1 := .inr (.inl (11, [.int i1_0, .int p2, va_rf o0_3, va_rf o0_4, va_rf o0_5, .ref (x3 + 1), .int 0]))) (pc1 := 162) rfl (by omega) (by omega) g14 rfl (by cases o0_5 <;> rfl) rfl rfl ?_
      rw [va_uu]
      have g15 : (va_up G x3 (.inr (.inl (11, [.int i1_0, .int p2, va_rf o0_3, va_rf o0_4, va_rf o0_5, .ref (x3 + 1), .int 0])))) y1 = .inr (.inl (9, [.int i1_0, .int i1_1, .ref r1_2, va_rf o1_3, va_rf o1_4])) := (va_ne (ne_ob g13 g14 (by decide))).trans ((va_ne (ne_ob g13 g14 (by decide))).symm.trans g13)
      have g16 : (va_up G x3 (.inr (.inl (11, [.int i1_0, .int p2, va_rf o0_3, va_rf o0_4, va_rf o0_5, .ref (x3 + 1), .int 0])))) x3 = .inr (.inl (11, [.int i1_0, .int p2, va_rf o0_3, va_rf o0_4, va_rf o0_5, .ref (x3 + 1), .int 0])) := up_eq
      refine w_mv (pc1 := 163) (st1 := [.ref 9]) rfl rfl rfl ?_
      obtain ⟨b17b, i17_5, i17_6, i17_7, g17, hh⟩ := hh
      refine cw_gf (v := .ref 17) (pc1 := 166) rfl (by omega) (by omega) g17 rfl rfl ?_
      refine w_mv (pc1 := 168) (st1 := [.ref x3, .ref 17]) rfl rfl rfl ?_
      refine cw_gf (v := .int p2) (pc1 := 171) rfl (by omega) (by omega) g16 rfl rfl ?_
      obtain ⟨b18b, f18, g18, hh⟩ := hh
      obtain ⟨q19a, q19b, hh⟩ := hh
      refine cw_ald (pc1 := 172) rfl (by omega) g18 rfl q19a q19b rfl ?_
      obtain ⟨x20, e20, hh⟩ := hh
      rw [e20]
      refine w_mv (pc1 := 174) (st1 := [.ref x3, .ref x20]) rfl rfl rfl ?_
      obtain ⟨b21a, b21b, i21_1, g21, hh⟩ := hh
      refine w_call (M' := sM_52) (vals := [.ref x20, .ref x3]) (rest := []) (lv' := [(0, .ref x20), (1, .ref x3)]) rfl rfl rfl rfl rfl rfl (cH_rcv (by omega) (by omega) g21) rfl rfl rfl ?_
      refine w_mv (pc1 := 1) (st1 := [.ref x20]) rfl rfl rfl ?_
      refine cw_gf (v := .int i21_1) (pc1 := 4) rfl (by omega) (by omega) g21 rfl rfl ?_
      refine w_mv (pc1 := 5) (st1 := [.ref x20, .int i21_1]) rfl rfl rfl ?_
      refine cw_gf (v := .ref (x20 + 1)) (pc1 := 8) rfl (by omega) (by omega) g21 rfl rfl ?_
      obtain ⟨b22a, b22b, f22, g22, hh⟩ := hh
      refine cw_alen (pc1 := 9) rfl (by omega) g22 rfl ?_
      by_cases h23 : 61 ≤ i21_1.toInt
      ·
        replace hh := hh.1 h23
        refine w_ige_T (pc1 := 32) rfl rfl (show 61 ≤ i21_1.toInt from h23) ?_
        refine w_vret (pc1 := 177) rfl rfl rfl ?_
        refine w_mv (pc1 := 178) (st1 := [.int 0]) rfl rfl rfl ?_
        refine sx_wp.stop rfl rfl rfl ?_
        exact c_acc (hP _ _ _ _ _ hh) (by omega) (by omega)
      ·
        replace hh := hh.2 (Int.not_le.mp h23)
        refine w_ige_F (pc1 := 12) rfl (by decide) rfl (show i21_1.toInt < 61 from (Int.not_le.mp h23)) ?_
        refine w_mv (pc1 := 13) (st1 := [.ref x20]) rfl rfl rfl ?_
        refine cw_gf (v := .ref (x20 + 1)) (pc1 := 16) rfl (by omega) (by omega) g21 rfl rfl ?_
        refine w_mv (pc1 := 17) (st1 := [.ref x20, .ref (x20 + 1)]) rfl rfl rfl ?_
        refine cw_gf (v := .int i21_1) (pc1 := 20) rfl (by omega) (by omega) g21 rfl rfl ?_
        refine w_mv (pc1 := 21) (st1 := [.ref x3, .int i21_1, .ref (x20 + 1)]) rfl rfl rfl ?_
        obtain ⟨q24a, q24b, hh⟩ := hh
        refine cw_as (pc1 := 22) rfl (by omega) (by omega) g22 (by omega) (by omega) g16 rfl q24a q24b rfl ?_
        have g25 : (va_up (va_up G x3 (.inr (.inl (11, [.int i1_0, .int p2, va_rf o0_3, va_rf o0_4, va_rf o0_5, .ref (x3 + 1), .int 0])))) (x20 + 1) (.inl (7, (61, .inr (.inr (.inr (.inr (va_up f22 i21_1.toNatClampNeg (some x3))))))))) y1 = .inr (.inl (9, [.int i1_0, .int i1_1, .ref r1_2, va_rf o1_3, va_rf o1_4])) := (va_ne (ne_oa g15 g22)).trans g15
        have g26 : (va_up (va_up G x3 (.inr (.inl (11, [.int i1_0, .int p2, va_rf o0_3, va_rf o0_4, va_rf o0_5, .ref (x3 + 1), .int 0])))) (x20 + 1) (.inl (7, (61, .inr (.inr (.inr (.inr (va_up f22 i21_1.toNatClampNeg (some x3))))))))) x3 = .inr (.inl (11, [.int i1_0, .int p2, va_rf o0_3, va_rf o0_4, va_rf o0_5, .ref (x3 + 1), .int 0])) := (va_ne (ne_oa g16 g22)).trans g16
        have g27 : (va_up (va_up G x3 (.inr (.inl (11, [.int i1_0, .int p2, va_rf o0_3, va_rf o0_4, va_rf o0_5, .ref (x3 + 1), .int 0])))) (x20 + 1) (.inl (7, (61, .inr (.inr (.inr (.inr (va_up f22 i21_1.toNatClampNeg (some x3))))))))) 9 = .inr (.inl (2, [.ref 10, .ref 17, .ref 18, .ref 20, .ref 22, .int i17_5, .int i17_6, .int i17_7])) := (va_ne (ne_oa g17 g22)).trans g17
        have g28 : (va_up (va_up G x3 (.inr (.inl (11, [.int i1_0, .int p2, va_rf o0_3, va_rf o0_4, va_rf o0_5, .ref (x3 + 1), .int 0])))) (x20 + 1) (.inl (7, (61, .inr (.inr (.inr (.inr (va_up f22 i21_1.toNatClampNeg (some x3))))))))) 17 = .inl (5, (4, .inr (.inr (.inr (.inr f18))))) := (va_ne (ne_aa g18 g22 (by decide))).trans g18
        have g29 : (va_up (va_up G x3 (.inr (.inl (11, [.int i1_0, .int p2, va_rf o0_3, va_rf o0_4, va_rf o0_5, .ref (x3 + 1), .int 0])))) (x20 + 1) (.inl (7, (61, .inr (.inr (.inr (.inr (va_up f22 i21_1.toNatClampNeg (some x3))))))))) x20 = .inr (.inl (6, [.ref (x20 + 1), .int i21_1])) := (va_ne (ne_oa g21 g22)).trans g21
        have g30 : (va_up (va_up G x3 (.inr (.inl (11, [.int i1_0, .int p2, va_rf o0_3, va_rf o0_4, va_rf o0_5, .ref (x3 + 1), .int 0])))) (x20 + 1) (.inl (7, (61, .inr (.inr (.inr (.inr (va_up f22 i21_1.toNatClampNeg (some x3))))))))) (x20 + 1) = .inl (7, (61, .inr (.inr (.inr (.inr (va_up f22 i21_1.toNatClampNeg (some x3))))))) := up_eq
        refine w_mv (pc1 := 23) (st1 := [.ref x20]) rfl rfl rfl ?_
        refine w_mv (pc1 := 24) (st1 := [.ref x20, .ref x20]) rfl rfl rfl ?_
        refine cw_gf (v := .int i21_1) (pc1 := 27) rfl (by omega) (by omega) g29 rfl rfl ?_
        refine w_mv (pc1 := 28) (st1 := [.int 1, .int i21_1, .ref x20]) rfl rfl rfl ?_
        refine w_mv (pc1 := 29) (st1 := [.int (i21_1 + 1), .ref x20]) rfl rfl rfl ?_
        refine cw_pf (c1 := .inr (.inl (6, [.ref (x20 + 1), .int (i21_1 + 1)]))) (pc1 := 32) rfl (by omega) (by omega) g29 rfl rfl rfl rfl ?_
        have g31 : (va_up (va_up (va_up G x3 (.inr (.inl (11, [.int i1_0, .int p2, va_rf o0_3, va_rf o0_4, va_rf o0_5, .ref (x3 + 1), .int 0])))) (x20 + 1) (.inl (7, (61, .inr (.inr (.inr (.inr (va_up f22 i21_1.toNatClampNeg (some x3))))))))) x20 (.inr (.inl (6, [.ref (x20 + 1), .int (i21_1 + 1)])))) y1 = .inr (.inl (9, [.int i1_0, .int i1_1, .ref r1_2, va_rf o1_3, va_rf o1_4])) := (va_ne (ne_ob g25 g29 (by decide))).trans g25
        have g32 : (va_up (va_up (va_up G x3 (.inr (.inl (11, [.int i1_0, .int p2, va_rf o0_3, va_rf o0_4, va_rf o0_5, .ref (x3 + 1), .int 0])))) (x20 + 1) (.inl (7, (61, .inr (.inr (.inr (.inr (va_up f22 i21_1.toNatClampNeg (some x3))))))))) x20 (.inr (.inl (6, [.ref (x20 + 1), .int (i21_1 + 1)])))) x3 = .inr (.inl (11, [.int i1_0, .int p2, va_rf o0_3, va_rf o0_4, va_rf o0_5, .ref (x3 + 1), .int 0])) := (va_ne (ne_ob g26 g29 (by decide))).trans g26
        have g33 : (va_up (va_up (va_up G x3 (.inr (.inl (11, [.int i1_0, .int p2, va_rf o0_3, va_rf o0_4, va_rf o0_5, .ref (x3 + 1), .int 0])))) (x20 + 1) (.inl (7, (61, .inr (.inr (.inr (.inr (va_up f22 i21_1.toNatClampNeg (some x3))))))))) x20 (.inr (.inl (6, [.ref (x20 + 1), .int (i21_1 + 1)])))) 9 = .inr (.inl (2, [.ref 10, .ref 17, .ref 18, .ref 20, .ref 22, .int i17_5, .int i17_6, .int i17_7])) := (va_ne (ne_ob g27 g29 (by decide))).trans g27
        have g34 : (va_up (va_up (va_up G x3 (.inr (.inl (11, [.int i1_0, .int p2, va_rf o0_3, va_rf o0_4, va_rf o0_5, .ref (x3 + 1), .int 0])))) (x20 + 1) (.inl (7, (61, .inr (.inr (.inr (.inr (va_up f22 i21_1.toNatClampNeg (some x3))))))))) x20 (.inr (.inl (6, [.ref (x20 + 1), .int (i21_1 + 1)])))) 17 = .inl (5, (4, .inr (.inr (.inr (.inr f18))))) := (va_ne (ne_ao g28 g29)).trans g28
        have g35 : (va_up (va_up (va_up G x3 (.inr (.inl (11, [.int i1_0, .int p2, va_rf o0_3, va_rf o0_4, va_rf o0_5, .ref (x3 + 1), .int 0])))) (x20 + 1) (.inl (7, (61, .inr (.inr (.inr (.inr (va_up f22 i21_1.toNatClampNeg (some x3))))))))) x20 (.inr (.inl (6, [.ref (x20 + 1), .int (i21_1 + 1)])))) (x20 + 1) = .inl (7, (61, .inr (.inr (.inr (.inr (va_up f22 i21_1.toNatClampNeg (some x3))))))) := (va_ne (ne_ao g30 g29)).trans g30
        have g36 : (va_up (va_up (va_up G x3 (.inr (.inl (11, [.int i1_0, .int p2, va_rf o0_3, va_rf o0_4, va_rf o0_5, .ref (x3 + 1), .int 0])))) (x20 + 1) (.inl (7, (61, .inr (.inr (.inr (.inr (va_up f22 i21_1.toNatClampNeg (some x3))))))))) x20 (.inr (.inl (6, [.ref (x20 + 1), .int (i21_1 + 1)])))) x20 = .inr (.inl (6, [.ref (x20 + 1), .int (i21_1 + 1)])) := up_eq
        refine w_vret (pc1 := 177) rfl rfl rfl ?_
        refine w_mv (pc1 := 178) (st1 := [.int 0]) rfl rfl rfl ?_
        refine sx_wp.stop rfl rfl rfl ?_
        exact c_acc (hP _ _ _ _ _ hh) (by omega) (by omega)
  ·
    replace hh := hh.1 h2
    refine w_ine_T (pc1 := 135) rfl rfl (show i1_1.toInt ≠ (-1) from h2) ?_
    refine w_mv (pc1 := 136) (st1 := [.ref y1, .int i1_0, va_rf o0_6]) rfl rfl rfl ?_
    refine cw_gf (v := .int i1_1) (pc1 := 139) rfl (by omega) (by omega) g1 rfl rfl ?_
    cases o0_6 with
    | none =>
      replace hh := hh.1 rfl
      exact hh.elim
    | some x37 =>
      replace hh := hh.2 x37 rfl
      obtain ⟨b38a, b38b, i38_0, i38_1, o38_2, o38_3, o38_4, i38_6, g38, hh⟩ := hh
      refine w_call (M' := sM_64) (vals := [.ref x37, .int i1_0, .int i1_1]) (rest := []) (lv' := [(0, .ref x37), (1, .int i1_0), (2, .int i1_1)]) rfl rfl rfl rfl rfl rfl (cH_rcv (by omega) (by omega) g38) rfl rfl rfl ?_
      refine w_mv (pc1 := 1) (st1 := [.ref x37]) rfl rfl rfl ?_
      refine w_mv (pc1 := 2) (st1 := [.int i1_0, .ref x37]) rfl rfl rfl ?_
      refine cw_pf (c1 := .inr (.inl (11, [.int i1_0, .int i38_1, va_rf o38_2, va_rf o38_3, va_rf o38_4, .ref (x37 + 1), .int i38_6]))) (pc1 := 5) rfl (by omega) (by omega) g38 rfl rfl rfl rfl ?_
      have g39 : (va_up G x37 (.inr (.inl (11, [.int i1_0, .int i38_1, va_rf o38_2, va_rf o38_3, va_rf o38_4, .ref (x37 + 1), .int i38_6])))) y1 = .inr (.inl (9, [.int i1_0, .int i1_1, .ref r1_2, va_rf o1_3, va_rf o1_4])) := (va_ne (ne_ob g1 g38 (by decide))).trans g1
      have g40 : (va_up G x37 (.inr (.inl (11, [.int i1_0, .int i38_1, va_rf o38_2, va_rf o38_3, va_rf o38_4, .ref (x37 + 1), .int i38_6])))) x37 = .inr (.inl (11, [.int i1_0, .int i38_1, va_rf o38_2, va_rf o38_3, va_rf o38_4, .ref (x37 + 1), .int i38_6])) := up_eq
      refine w_mv (pc1 := 6) (st1 := [.ref x37]) rfl rfl rfl ?_
      refine w_mv (pc1 := 7) (st1 := [.int i1_1, .ref x37]) rfl rfl rfl ?_
      refine cw_pf (c1 := .inr (.inl (11, [.int i1_0, .int i1_1, va_rf o38_2, va_rf o38_3, va_rf o38_4, .ref (x37 + 1), .int i38_6]))) (pc1 := 10) rfl (by omega) (by omega) g40 rfl rfl rfl rfl ?_
      rw [va_uu]
      have g41 : (va_up G x37 (.inr (.inl (11, [.int i1_0, .int i1_1, va_rf o38_2, va_rf o38_3, va_rf o38_4, .ref (x37 + 1), .int i38_6])))) y1 = .inr (.inl (9, [.int i1_0, .int i1_1, .ref r1_2, va_rf o1_3, va_rf o1_4])) := (va_ne (ne_ob g39 g40 (by decide))).trans ((va_ne (ne_ob g39 g40 (by decide))).symm.trans g39)
      have g42 : (va_up G x37 (.inr (.inl (11, [.int i1_0, .int i1_1, va_rf o38_2, va_rf o38_3, va_rf o38_4, .ref (x37 + 1), .int i38_6])))) x37 = .inr (.inl (11, [.int i1_0, .int i1_1, va_rf o38_2, va_rf o38_3, va_rf o38_4, .ref (x37 + 1), .int i38_6])) := up_eq
      refine w_mv (pc1 := 11) (st1 := [.ref x37]) rfl rfl rfl ?_
      refine w_mv (pc1 := 12) (st1 := [.int 0, .ref x37]) rfl rfl rfl ?_
      refine cw_pf (c1 := .inr (.inl (11, [.int i1_0, .int i1_1, va_rf o38_2, va_rf o38_3, va_rf o38_4, .ref (x37 + 1), .int 0]))) (pc1 := 15) rfl (by omega) (by omega) g42 rfl rfl rfl rfl ?_
      rw [va_uu]
      have g43 : (va_up G x37 (.inr (.inl (11, [.int i1_0, .int i1_1, va_rf o38_2, va_rf o38_3, va_rf o38_4, .ref (x37 + 1), .int 0])))) y1 = .inr (.inl (9, [.int i1_0, .int i1_1, .ref r1_2, va_rf o1_3, va_rf o1_4])) := (va_ne (ne_ob g41 g42 (by decide))).trans ((va_ne (ne_ob g41 g42 (by decide))).symm.trans g41)
      have g44 : (va_up G x37 (.inr (.inl (11, [.int i1_0, .int i1_1, va_rf o38_2, va_rf o38_3, va_rf o38_4, .ref (x37 + 1), .int 0])))) x37 = .inr (.inl (11, [.int i1_0, .int i1_1, va_rf o38_2, va_rf o38_3, va_rf o38_4, .ref (x37 + 1), .int 0])) := up_eq
      refine w_vret (pc1 := 142) rfl rfl rfl ?_
      refine w_mv (pc1 := 144) (st1 := [.ref x37]) rfl rfl rfl ?_
      refine w_mv (pc1 := 145) (lv1 := [(0, .ref 9), (1, .ref y1), (2, .int p2), (3, va_rf o0_3), (4, va_rf o0_4), (5, va_rf o0_5), (6, .ref x37)]) (st1 := [va_rf o0_3, .ref x37]) rfl rfl (by cases o0_3 <;> rfl) ?_
      refine cw_pf (c1 := .inr (.inl (11, [.int i1_0, .int i1_1, va_rf o0_3, va_rf o38_3, va_rf o38_4, .ref (x37 + 1), .int 0]))) (pc1 := 148) rfl (by omega) (by omega) g44 rfl (by cases o0_3 <;> rfl) rfl rfl ?_
      rw [va_uu]
      have g45 : (va_up G x37 (.inr (.inl (11, [.int i1_0, .int i1_1, va_rf o0_3, va_rf o38_3, va_rf o38_4, .ref (x37 + 1), .int 0])))) y1 = .inr (.inl (9, [.int i1_0, .int i1_1, .ref r1_2, va_rf o1_3, va_rf o1_4])) := (va_ne (ne_ob g43 g44 (by decide))).trans ((va_ne (ne_ob g43 g44 (by decide))).symm.trans g43)
      have g46 : (va_up G x37 (.inr (.inl (11, [.int i1_0, .int i1_1, va_rf o0_3, va_rf o38_3, va_rf o38_4, .ref (x37 + 1), .int 0])))) x37 = .inr (.inl (11, [.int i1_0, .int i1_1, va_rf o0_3, va_rf o38_3, va_rf o38_4, .ref (x37 + 1), .int 0])) := up_eq
      refine w_mv (pc1 := 150) (st1 := [.ref x37]) rfl rfl rfl ?_
      refine w_mv (pc1 := 152) (lv1 := [(0, .ref 9), (1, .ref y1), (2, .int p2), (3, va_rf o0_3), (4, va_rf o0_4), (5, va_rf o0_5), (6, .ref x37)]) (st1 := [va_rf o0_4, .ref x37]) rfl rfl (by cases o0_4 <;> rfl) ?_
      refine cw_pf (c1 := .inr (.inl (11, [.int i1_0, .int i1_1, va_rf o0_3, va_rf o0_4, va_rf o38_4, .ref (x37 + 1), .int 0]))) (pc1 := 155) rfl (by omega) (by omega) g46 rfl (by cases o0_4 <;> rfl) rfl rfl ?_
      rw [va_uu]
      have g47 : (va_up G x37 (.inr (.inl (11, [.int i1_0, .int i1_1, va_rf o0_3, va_rf o0_4, va_rf o38_4, .ref (x37 + 1), .int 0])))) y1 = .inr (.inl (9, [.int i1_0, .int i1_1, .ref r1_2, va_rf o1_3, va_rf o1_4])) := (va_ne (ne_ob g45 g46 (by decide))).trans ((va_ne (ne_ob g45 g46 (by decide))).symm.trans g45)
      have g48 : (va_up G x37 (.inr (.inl (11, [.int i1_0, .int i1_1, va_rf o0_3, va_rf o0_4, va_rf o38_4, .ref (x37 + 1), .int 0])))) x37 = .inr (.inl (11, [.int i1_0, .int i1_1, va_rf o0_3, va_rf o0_4, va_rf o38_4, .ref (x37 + 1), .int 0])) := up_eq
      refine w_mv (pc1 := 157) (st1 := [.ref x37]) rfl rfl rfl ?_
      refine w_mv (pc1 := 159) (lv1 := [(0, .ref 9), (1, .ref y1), (2, .int p2), (3, va_rf o0_3), (4, va_rf o0_4), (5, va_rf o0_5), (6, .ref x37)]) (st1 := [va_rf o0_5, .ref x37]) rfl rfl (by cases o0_5 <;> rfl) ?_
      refine cw_pf (c1 := .inr (.inl (11, [.int i1_0, .int i1_1, va_rf o0_3, va_rf o0_4, va_rf o0_5, .ref (x37 + 1), .int 0]))) (pc1 := 162) rfl (by omega) (by omega) g48 rfl (by cases o0_5 <;> rfl) rfl rfl ?_
      rw [va_uu]
      have g49 : (va_up G x37 (.inr (.inl (11, [.int i1_0, .int i1_1, va_rf o0_3, va_rf o0_4, va_rf o0_5, .ref (x37 + 1), .int 0])))) y1 = .inr (.inl (9, [.int i1_0, .int i1_1, .ref r1_2, va_rf o1_3, va_rf o1_4])) := (va_ne (ne_ob g47 g48 (by decide))).trans ((va_ne (ne_ob g47 g48 (by decide))).symm.trans g47)
      have g50 : (va_up G x37 (.inr (.inl (11, [.int i1_0, .int i1_1, va_rf o0_3, va_rf o0_4, va_rf o0_5, .ref (x37 + 1), .int 0])))) x37 = .inr (.inl (11, [.int i1_0, .int i1_1, va_rf o0_3, va_rf o0_4, va_rf o0_5, .ref (x37 + 1), .int 0])) := up_eq
      refine w_mv (pc1 := 163) (st1 := [.ref 9]) rfl rfl rfl ?_
      obtain ⟨b51b, i51_5, i51_6, i51_7, g51, hh⟩ := hh
      refine cw_gf (v := .ref 17) (pc1 := 166) rfl (by omega) (by omega) g51 rfl rfl ?_
      refine w_mv (pc1 := 168) (st1 := [.ref x37, .ref 17]) rfl rfl rfl ?_
      refine cw_gf (v := .int i1_1) (pc1 := 171) rfl (by omega) (by omega) g50 rfl rfl ?_
      obtain ⟨b52b, f52, g52, hh⟩ := hh
      obtain ⟨q53a, q53b, hh⟩ := hh
      refine cw_ald (pc1 := 172) rfl (by omega) g52 rfl q53a q53b rfl ?_
      obtain ⟨x54, e54, hh⟩ := hh
      rw [e54]
      refine w_mv (pc1 := 174) (st1 := [.ref x37, .ref x54]) rfl rfl rfl ?_
      obtain ⟨b55a, b55b, i55_1, g55, hh⟩ := hh
      refine w_call (M' := sM_52) (vals := [.ref x54, .ref x37]) (rest := []) (lv' := [(0, .ref x54), (1, .ref x37)]) rfl rfl rfl rfl rfl rfl (cH_rcv (by omega) (by omega) g55) rfl rfl rfl ?_
      refine w_mv (pc1 := 1) (st1 := [.ref x54]) rfl rfl rfl ?_
      refine cw_gf (v := .int i55_1) (pc1 := 4) rfl (by omega) (by omega) g55 rfl rfl ?_
      refine w_mv (pc1 := 5) (st1 := [.ref x54, .int i55_1]) rfl rfl rfl ?_
      refine cw_gf (v := .ref (x54 + 1)) (pc1 := 8) rfl (by omega) (by omega) g55 rfl rfl ?_
      obtain ⟨b56a, b56b, f56, g56, hh⟩ := hh
      refine cw_alen (pc1 := 9) rfl (by omega) g56 rfl ?_
      by_cases h57 : 61 ≤ i55_1.toInt
      ·
        replace hh := hh.1 h57
        refine w_ige_T (pc1 := 32) rfl rfl (show 61 ≤ i55_1.toInt from h57) ?_
        refine w_vret (pc1 := 177) rfl rfl rfl ?_
        refine w_mv (pc1 := 178) (st1 := [.int 0]) rfl rfl rfl ?_
        refine sx_wp.stop rfl rfl rfl ?_
        exact c_acc (hP _ _ _ _ _ hh) (by omega) (by omega)
      ·
        replace hh := hh.2 (Int.not_le.mp h57)
        refine w_ige_F (pc1 := 12) rfl (by decide) rfl (show i55_1.toInt < 61 from (Int.not_le.mp h57)) ?_
        refine w_mv (pc1 := 13) (st1 := [.ref x54]) rfl rfl rfl ?_
        refine cw_gf (v := .ref (x54 + 1)) (pc1 := 16) rfl (by omega) (by omega) g55 rfl rfl ?_
        refine w_mv (pc1 := 17) (st1 := [.ref x54, .ref (x54 + 1)]) rfl rfl rfl ?_
        refine cw_gf (v := .int i55_1) (pc1 := 20) rfl (by omega) (by omega) g55 rfl rfl ?_
        refine w_mv (pc1 := 21) (st1 := [.ref x37, .int i55_1, .ref (x54 + 1)]) rfl rfl rfl ?_
        obtain ⟨q58a, q58b, hh⟩ := hh
        refine cw_as (pc1 := 22) rfl (by omega) (by omega) g56 (by omega) (by omega) g50 rfl q58a q58b rfl ?_
        have g59 : (va_up (va_up G x37 (.inr (.inl (11, [.int i1_0, .int i1_1, va_rf o0_3, va_rf o0_4, va_rf o0_5, .ref (x37 + 1), .int 0])))) (x54 + 1) (.inl (7, (61, .inr (.inr (.inr (.inr (va_up f56 i55_1.toNatClampNeg (some x37))))))))) y1 = .inr (.inl (9, [.int i1_0, .int i1_1, .ref r1_2, va_rf o1_3, va_rf o1_4])) := (va_ne (ne_oa g49 g56)).trans g49
        have g60 : (va_up (va_up G x37 (.inr (.inl (11, [.int i1_0, .int i1_1, va_rf o0_3, va_rf o0_4, va_rf o0_5, .ref (x37 + 1), .int 0])))) (x54 + 1) (.inl (7, (61, .inr (.inr (.inr (.inr (va_up f56 i55_1.toNatClampNeg (some x37))))))))) x37 = .inr (.inl (11, [.int i1_0, .int i1_1, va_rf o0_3, va_rf o0_4, va_rf o0_5, .ref (x37 + 1), .int 0])) := (va_ne (ne_oa g50 g56)).trans g50
        have g61 : (va_up (va_up G x37 (.inr (.inl (11, [.int i1_0, .int i1_1, va_rf o0_3, va_rf o0_4, va_rf o0_5, .ref (x37 + 1), .int 0])))) (x54 + 1) (.inl (7, (61, .inr (.inr (.inr (.inr (va_up f56 i55_1.toNatClampNeg (some x37))))))))) 9 = .inr (.inl (2, [.ref 10, .ref 17, .ref 18, .ref 20, .ref 22, .int i51_5, .int i51_6, .int i51_7])) := (va_ne (ne_oa g51 g56)).trans g51
        have g62 : (va_up (va_up G x37 (.inr (.inl (11, [.int i1_0, .int i1_1, va_rf o0_3, va_rf o0_4, va_rf o0_5, .ref (x37 + 1), .int 0])))) (x54 + 1) (.inl (7, (61, .inr (.inr (.inr (.inr (va_up f56 i55_1.toNatClampNeg (some x37))))))))) 17 = .inl (5, (4, .inr (.inr (.inr (.inr f52))))) := (va_ne (ne_aa g52 g56 (by decide))).trans g52
        have g63 : (va_up (va_up G x37 (.inr (.inl (11, [.int i1_0, .int i1_1, va_rf o0_3, va_rf o0_4, va_rf o0_5, .ref (x37 + 1), .int 0])))) (x54 + 1) (.inl (7, (61, .inr (.inr (.inr (.inr (va_up f56 i55_1.toNatClampNeg (some x37))))))))) x54 = .inr (.inl (6, [.ref (x54 + 1), .int i55_1])) := (va_ne (ne_oa g55 g56)).trans g55
        have g64 : (va_up (va_up G x37 (.inr (.inl (11, [.int i1_0, .int i1_1, va_rf o0_3, va_rf o0_4, va_rf o0_5, .ref (x37 + 1), .int 0])))) (x54 + 1) (.inl (7, (61, .inr (.inr (.inr (.inr (va_up f56 i55_1.toNatClampNeg (some x37))))))))) (x54 + 1) = .inl (7, (61, .inr (.inr (.inr (.inr (va_up f56 i55_1.toNatClampNeg (some x37))))))) := up_eq
        refine w_mv (pc1 := 23) (st1 := [.ref x54]) rfl rfl rfl ?_
        refine w_mv (pc1 := 24) (st1 := [.ref x54, .ref x54]) rfl rfl rfl ?_
        refine cw_gf (v := .int i55_1) (pc1 := 27) rfl (by omega) (by omega) g63 rfl rfl ?_
        refine w_mv (pc1 := 28) (st1 := [.int 1, .int i55_1, .ref x54]) rfl rfl rfl ?_
        refine w_mv (pc1 := 29) (st1 := [.int (i55_1 + 1), .ref x54]) rfl rfl rfl ?_
        refine cw_pf (c1 := .inr (.inl (6, [.ref (x54 + 1), .int (i55_1 + 1)]))) (pc1 := 32) rfl (by omega) (by omega) g63 rfl rfl rfl rfl ?_
        have g65 : (va_up (va_up (va_up G x37 (.inr (.inl (11, [.int i1_0, .int i1_1, va_rf o0_3, va_rf o0_4, va_rf o0_5, .ref (x37 + 1), .int 0])))) (x54 + 1) (.inl (7, (61, .inr (.inr (.inr (.inr (va_up f56 i55_1.toNatClampNeg (some x37))))))))) x54 (.inr (.inl (6, [.ref (x54 + 1), .int (i55_1 + 1)])))) y1 = .inr (.inl (9, [.int i1_0, .int i1_1, .ref r1_2, va_rf o1_3, va_rf o1_4])) := (va_ne (ne_ob g59 g63 (by decide))).trans g59
        have g66 : (va_up (va_up (va_up G x37 (.inr (.inl (11, [.int i1_0, .int i1_1, va_rf o0_3, va_rf o0_4, va_rf o0_5, .ref (x37 + 1), .int 0])))) (x54 + 1) (.inl (7, (61, .inr (.inr (.inr (.inr (va_up f56 i55_1.toNatClampNeg (some x37))))))))) x54 (.inr (.inl (6, [.ref (x54 + 1), .int (i55_1 + 1)])))) x37 = .inr (.inl (11, [.int i1_0, .int i1_1, va_rf o0_3, va_rf o0_4, va_rf o0_5, .ref (x37 + 1), .int 0])) := (va_ne (ne_ob g60 g63 (by decide))).trans g60
        have g67 : (va_up (va_up (va_up G x37 (.inr (.inl (11, [.int i1_0, .int i1_1, va_rf o0_3, va_rf o0_4, va_rf o0_5, .ref (x37 + 1), .int 0])))) (x54 + 1) (.inl (7, (61, .inr (.inr (.inr (.inr (va_up f56 i55_1.toNatClampNeg (some x37))))))))) x54 (.inr (.inl (6, [.ref (x54 + 1), .int (i55_1 + 1)])))) 9 = .inr (.inl (2, [.ref 10, .ref 17, .ref 18, .ref 20, .ref 22, .int i51_5, .int i51_6, .int i51_7])) := (va_ne (ne_ob g61 g63 (by decide))).trans g61
        have g68 : (va_up (va_up (va_up G x37 (.inr (.inl (11, [.int i1_0, .int i1_1, va_rf o0_3, va_rf o0_4, va_rf o0_5, .ref (x37 + 1), .int 0])))) (x54 + 1) (.inl (7, (61, .inr (.inr (.inr (.inr (va_up f56 i55_1.toNatClampNeg (some x37))))))))) x54 (.inr (.inl (6, [.ref (x54 + 1), .int (i55_1 + 1)])))) 17 = .inl (5, (4, .inr (.inr (.inr (.inr f52))))) := (va_ne (ne_ao g62 g63)).trans g62
        have g69 : (va_up (va_up (va_up G x37 (.inr (.inl (11, [.int i1_0, .int i1_1, va_rf o0_3, va_rf o0_4, va_rf o0_5, .ref (x37 + 1), .int 0])))) (x54 + 1) (.inl (7, (61, .inr (.inr (.inr (.inr (va_up f56 i55_1.toNatClampNeg (some x37))))))))) x54 (.inr (.inl (6, [.ref (x54 + 1), .int (i55_1 + 1)])))) (x54 + 1) = .inl (7, (61, .inr (.inr (.inr (.inr (va_up f56 i55_1.toNatClampNeg (some x37))))))) := (va_ne (ne_ao g64 g63)).trans g64
        have g70 : (va_up (va_up (va_up G x37 (.inr (.inl (11, [.int i1_0, .int i1_1, va_rf o0_3, va_rf o0_4, va_rf o0_5, .ref (x37 + 1), .int 0])))) (x54 + 1) (.inl (7, (61, .inr (.inr (.inr (.inr (va_up f56 i55_1.toNatClampNeg (some x37))))))))) x54 (.inr (.inl (6, [.ref (x54 + 1), .int (i55_1 + 1)])))) x54 = .inr (.inl (6, [.ref (x54 + 1), .int (i55_1 + 1)])) := up_eq
        refine w_vret (pc1 := 177) rfl rfl rfl ?_
        refine w_mv (pc1 := 178) (st1 := [.int 0]) rfl rfl rfl ?_
        refine sx_wp.stop rfl rfl rfl ?_
        exact c_acc (hP _ _ _ _ _ hh) (by omega) (by omega)
set_option maxRecDepth 20000 in
set_option maxHeartbeats 4000000 in
theorem k_56_0 {h : Nat} {y1 : Nat} {N : Nat} {G : Nat → sx_C} {K : Option Value ⊕ Nat → Nat → (Nat → sx_C) → Nat → Nat → Prop} (hh : 5 ≤ y1 ∧ y1 < N ∧ ∃ (i1_0 : Int32) (i1_1 : Int32) (i1_3 : Int32) (i1_4 : Int32), G y1 = .inr (.inl (7, [.int i1_0, .int i1_1, .ref (y1 + 1), .int i1_3, .int i1_4])) ∧ ((i1_0.toInt ≠ 0 → 10 < N ∧ ∃ (i25_3 : Int32) (o25_4 : Option Nat), G 10 = .inr (.inl (3, [.ref 11, .ref 13, .ref 16, .int i25_3, va_rf o25_4])) ∧ 11 < N ∧ ∃ (i26_1 : Int32) (i26_2 : Int32), G 11 = .inr (.inl (4, [.ref 12, .int i26_1, .int i26_2])) ∧ cT (8) sM_59 0 [(0, .ref 11), (1, .int i1_0), (2, .int i1_1)] [] (N) G (fun r27 N27 G27 kc27 ks27 => ∃ o27 : Option Nat, r27 = .inl (some (va_rf o27)) ∧ cT (h + 10) sM_56 61 [(0, .ref 10), (1, .ref y1), (2, va_rf o27), (3, .int 0)] [] (N27) G27 (fun r N1 G1 kc1 ks1 => K r N1 G1 (kc27 + kc1) (ks27 + ks1)))) ∧ (i1_0.toInt = 0 → 10 < N ∧ ∃ (i3_3 : Int32) (o3_4 : Option Nat), G 10 = .inr (.inl (3, [.ref 11, .ref 13, .ref 16, .int i3_3, va_rf o3_4])) ∧ (((c_ushr i3_3 i1_1 &&& 1).toInt = 0 → 11 < N ∧ ∃ (i5_1 : Int32) (i5_2 : Int32), G 11 = .inr (.inl (4, [.ref 12, .int i5_1, .int i5_2])) ∧ cT (9) sM_58 0 [(0, .ref 11)] [] (N) G (fun r6 N6 G6 kc6 ks6 => ∃ o6 : Option Nat, r6 = .inl (some (va_rf o6)) ∧ ((o6 = none → 10 < N6 ∧ ∃ (i8_3 : Int32) (o8_4 : Option Nat), G6 10 = .inr (.inl (3, [.ref 11, .ref 13, .ref 16, .int i8_3, va_rf o8_4])) ∧ 16 < N6 ∧ ∃ (f9 : Nat → Option Nat), G6 16 = .inl (6, (26, .inr (.inr (.inr (.inr f9))))) ∧ 0 ≤ i1_1.toInt ∧ i1_1.toInt < (26 : Nat) ∧ cT (h + 10) sM_56 33 [(0, .ref 10), (1, .ref y1)] [] (N6) (va_up (va_up G6 16 (.inl (6, (26, .inr (.inr (.inr (.inr (va_up f9 i1_1.toNatClampNeg none)))))))) 10 (.inr (.inl (3, [.ref 11, .ref 13, .ref 16, .int (i8_3 ||| c_shl 1 i1_1), va_rf o8_4])))) (fun r N1 G1 kc1 ks1 => K r N1 G1 (kc6 + kc1) (ks6 + ks1))) ∧ (∀ x7, o6 = some x7 → 10 < N6 ∧ ∃ (i15_3 : Int32) (o15_4 : Option Nat), G6 10 = .inr (.inl (3, [.ref 11, .ref 13, .ref 16, .int i15_3, va_rf o15_4])) ∧ 16 < N6 ∧ ∃ (f16 : Nat → Option Nat), G6 16 = .inl (6, (26, .inr (.inr (.inr (.inr f16))))) ∧ 0 ≤ i1_1.toInt ∧ i1_1.toInt < (26 : Nat) ∧ 5 ≤ x7 ∧ x7 < N6 ∧ ∃ (i18_1 : Int32) (i18_2 : Int32) (i18_3 : Int32) (o18_4 : Option Nat), G6 x7 = .inr (.inl (10, [.ref (x7 + 1), .int i18_1, .int i18_2, .int i18_3, va_rf o18_4])) ∧ cT (h + 10) sM_56 33 [(0, .ref 10), (1, .ref y1)] [] (N6) (va_up (va_up G6 16 (.inl (6, (26, .inr (.inr (.inr (.inr (va_up f16 i1_1.toNatClampNeg (some x7))))))))) 10 (.inr (.inl (3, [.ref 11, .ref 13, .ref 16, .int (i15_3 ||| c_shl 1 i1_1), va_rf o15_4])))) (fun r N1 G1 kc1 ks1 => K r N1 G1 (kc6 + kc1) (ks6 + ks1)))))) ∧ ((c_ushr i3_3 i1_1 &&& 1).toInt ≠ 0 → cT (h + 10) sM_56 33 [(0, .ref 10), (1, .ref y1)] [] (N) G (fun r N1 G1 kc1 ks1 => K r N1 G1 (kc1) (ks1))))))) : cT (h + 10) sM_56 0 [(0, .ref 10), (1, .ref y1)] [] N G K := by
  intro d dc ds P hP
  show s_wp (d + h + 10) _ _ _ _ _ _ _ _
  refine w_mv (pc1 := 1) (st1 := [.ref y1]) rfl rfl rfl ?_
  obtain ⟨b1a, b1b, i1_0, i1_1, i1_3, i1_4, g1, hh⟩ := hh
  refine cw_gf (v := .int i1_0) (pc1 := 4) rfl (by omega) (by omega) g1 rfl rfl ?_
  by_cases h2 : i1_0.toInt = 0
  ·
    replace hh := hh.2 h2
    refine w_zne_F (pc1 := 7) rfl (by decide) rfl (show i1_0.toInt = 0 from h2) ?_
    refine w_mv (pc1 := 8) (st1 := [.ref 10]) rfl rfl rfl ?_
    refine w_mv (pc1 := 9) (st1 := [.ref y1, .ref 10]) rfl rfl rfl ?_
    refine cw_gf (v := .int i1_1) (pc1 := 12) rfl (by omega) (by omega) g1 rfl rfl ?_
    obtain ⟨b3b, i3_3, o3_4, g3, hh⟩ := hh
    refine w_call (M' := sM_57) (vals := [.ref 10, .int i1_1]) (rest := []) (lv' := [(0, .ref 10), (1, .int i1_1)]) rfl rfl rfl rfl rfl rfl (cH_rcv (by omega) (by omega) g3) rfl rfl rfl ?_
    refine w_mv (pc1 := 1) (st1 := [.ref 10]) rfl rfl rfl ?_
    refine cw_gf (v := .int i3_3) (pc1 := 4) rfl (by omega) (by omega) g3 rfl rfl ?_
    refine w_mv (pc1 := 5) (st1 := [.int i1_1, .int i3_3]) rfl rfl rfl ?_
    refine w_mv (pc1 := 6) (st1 := [.int (c_ushr i3_3 i1_1)]) rfl rfl rfl ?_
    refine w_mv (pc1 := 7) (st1 := [.int 1, .int (c_ushr i3_3 i1_1)]) rfl rfl rfl ?_
    refine w_mv (pc1 := 8) (st1 := [.int (c_ushr i3_3 i1_1 &&& 1)]) rfl rfl rfl ?_
    by_cases h4 : (c_ushr i3_3 i1_1 &&& 1).toInt = 0
    ·
      replace hh := hh.1 h4
      refine w_zeq_T (pc1 := 15) rfl rfl (show (c_ushr i3_3 i1_1 &&& 1).toInt = 0 from h4) ?_
      refine w_mv (pc1 := 16) (st1 := [.int 0]) rfl rfl rfl ?_
      refine w_iret (pc1 := 15) rfl rfl rfl rfl ?_
      refine w_mv (pc1 := 18) (st1 := []) rfl rfl rfl ?_
      refine w_mv (pc1 := 19) (st1 := [.ref 10]) rfl rfl rfl ?_
      refine w_mv (pc1 := 20) (st1 := [.ref y1, .ref 10]) rfl rfl rfl ?_
      refine cw_gf (v := .int i1_1) (pc1 := 23) rfl (by omega) (by omega) g1 rfl rfl ?_
      refine w_mv (pc1 := 24) (st1 := [.ref 10, .int i1_1, .ref 10]) rfl rfl rfl ?_
      refine cw_gf (v := .ref 11) (pc1 := 27) rfl (by omega) (by omega) g3 rfl rfl ?_
      obtain ⟨b5b, i5_1, i5_2, g5, hh⟩ := hh
      refine w_call (M' := sM_58) (vals := [.ref 11]) (rest := [.int i1_1, .ref 10]) (lv' := [(0, .ref 11)]) rfl rfl rfl rfl rfl rfl (cH_rcv (by omega) (by omega) g5) rfl rfl rfl ?_
      refine hh _ _ _ _ (fun r6 N6 G6 kc6 ks6 hh => ?_)
      obtain ⟨o6, er6, hh⟩ := hh
      subst er6
      refine w_kr (pc1 := 30) rfl ?_
      cases o6 with
      | none =>
        replace hh := hh.1 rfl
        obtain ⟨b8b, i8_3, o8_4, g8, hh⟩ := hh
        refine w_call (M' := sM_61) (vals := [.ref 10, .int i1_1, .null]) (rest := []) (lv' := [(0, .ref 10), (1, .int i1_1), (2, .null)]) rfl rfl rfl rfl rfl rfl (cH_rcv (by omega) (by omega) g8) rfl rfl rfl ?_
        refine w_mv (pc1 := 1) (st1 := [.ref 10]) rfl rfl rfl ?_
        refine cw_gf (v := .ref 16) (pc1 := 4) rfl (by omega) (by omega) g8 rfl rfl ?_
        refine w_mv (pc1 := 5) (st1 := [.int i1_1, .ref 16]) rfl rfl rfl ?_
        refine w_mv (pc1 := 6) (st1 := [.null, .int i1_1, .ref 16]) rfl rfl rfl ?_
        obtain ⟨b9b, f9, g9, hh⟩ := hh
        obtain ⟨q10a, q10b, hh⟩ := hh
        refine cw_asN (pc1 := 7) rfl (by omega) (by omega) g9 rfl q10a q10b rfl ?_
        have g11 : (va_up G6 16 (.inl (6, (26, .inr (.inr (.inr (.inr (va_up f9 i1_1.toNatClampNeg none)))))))) 10 = .inr (.inl (3, [.ref 11, .ref 13, .ref 16, .int i8_3, va_rf o8_4])) := (va_ne (ne_oa g8 g9)).trans g8
        have g12 : (va_up G6 16 (.inl (6, (26, .inr (.inr (.inr (.inr (va_up f9 i1_1.toNatClampNeg none)))))))) 16 = .inl (6, (26, .inr (.inr (.inr (.inr (va_up f9 i1_1.toNatClampNeg none)))))) := up_eq
        refine w_mv (pc1 := 8) (st1 := [.ref 10]) rfl rfl rfl ?_
        refine w_mv (pc1 := 9) (st1 := [.ref 10, .ref 10]) rfl rfl rfl ?_
        refine cw_gf (v := .int i8_3) (pc1 := 12) rfl (by omega) (by omega) g11 rfl rfl ?_
        refine w_mv (pc1 := 13) (st1 := [.int 1, .int i8_3, .ref 10]) rfl rfl rfl ?_
        refine w_mv (pc1 := 14) (st1 := [.int i1_1, .int 1, .int i8_3, .ref 10]) rfl rfl rfl ?_
        refine w_mv (pc1 := 15) (st1 := [.int (c_shl 1 i1_1), .int i8_3, .ref 10]) rfl rfl rfl ?_
        refine w_mv (pc1 := 16) (st1 := [.int (i8_3 ||| c_shl 1 i1_1), .ref 10]) rfl rfl rfl ?_
        refine cw_pf (c1 := .inr (.inl (3, [.ref 11, .ref 13, .ref 16, .int (i8_3 ||| c_shl 1 i1_1), va_rf o8_4]))) (pc1 := 19) rfl (by omega) (by omega) g11 rfl rfl rfl rfl ?_
        have g13 : (va_up (va_up G6 16 (.inl (6, (26, .inr (.inr (.inr (.inr (va_up f9 i1_1.toNatClampNeg none)))))))) 10 (.inr (.inl (3, [.ref 11, .ref 13, .ref 16, .int (i8_3 ||| c_shl 1 i1_1), va_rf o8_4])))) 16 = .inl (6, (26, .inr (.inr (.inr (.inr (va_up f9 i1_1.toNatClampNeg none)))))) := (va_ne (ne_ao g12 g11)).trans g12
        have g14 : (va_up (va_up G6 16 (.inl (6, (26, .inr (.inr (.inr (.inr (va_up f9 i1_1.toNatClampNeg none)))))))) 10 (.inr (.inl (3, [.ref 11, .ref 13, .ref 16, .int (i8_3 ||| c_shl 1 i1_1), va_rf o8_4])))) 10 = .inr (.inl (3, [.ref 11, .ref 13, .ref 16, .int (i8_3 ||| c_shl 1 i1_1), va_rf o8_4])) := up_eq
        refine w_vret (pc1 := 33) rfl rfl rfl ?_
        refine w_wk (l1 := [(0, .ref 10), (1, .ref y1)]) rfl ⟨rfl, rfl, trivial⟩ ?_
        refine hh d _ _ P (fun r N1 G1 kc1 ks1 q => ?_)
        exact c_acc (hP r N1 G1 _ _ q) (by omega) (by omega)
      | some x7 =>
        replace hh := hh.2 x7 rfl
        obtain ⟨b15b, i15_3, o15_4, g15, hh⟩ := hh
        refine w_call (M' := sM_61) (vals := [.ref 10, .int i1_1, .ref x7]) (rest := []) (lv' := [(0, .ref 10), (1, .int i1_1), (2, .ref x7)]) rfl rfl rfl rfl rfl rfl (cH_rcv (by omega) (by omega) g15) rfl rfl rfl ?_
        refine w_mv (pc1 := 1) (st1 := [.ref 10]) rfl rfl rfl ?_
        refine cw_gf (v := .ref 16) (pc1 := 4) rfl (by omega) (by omega) g15 rfl rfl ?_
        refine w_mv (pc1 := 5) (st1 := [.int i1_1, .ref 16]) rfl rfl rfl ?_
        refine w_mv (pc1 := 6) (st1 := [.ref x7, .int i1_1, .ref 16]) rfl rfl rfl ?_
        obtain ⟨b16b, f16, g16, hh⟩ := hh
        obtain ⟨q17a, q17b, hh⟩ := hh
        obtain ⟨b18a, b18b, i18_1, i18_2, i18_3, o18_4, g18, hh⟩ := hh
        refine cw_as (pc1 := 7) rfl (by omega) (by omega) g16 (by omega) (by omega) g18 rfl q17a q17b rfl ?_
        have g19 : (va_up G6 16 (.inl (6, (26, .inr (.inr (.inr (.inr (va_up f16 i1_1.toNatClampNeg (some x7))))))))) 10 = .inr (.inl (3, [.ref 11, .ref 13, .ref 16, .int i15_3, va_rf o15_4])) := (va_ne (ne_oa g15 g16)).trans g15
        have g20 : (va_up G6 16 (.inl (6, (26, .inr (.inr (.inr (.inr (va_up f16 i1_1.toNatClampNeg (some x7))))))))) x7 = .inr (.inl (10, [.ref (x7 + 1), .int i18_1, .int i18_2, .int i18_3, va_rf o18_4])) := (va_ne (ne_oa g18 g16)).trans g18
        have g21 : (va_up G6 16 (.inl (6, (26, .inr (.inr (.inr (.inr (va_up f16 i1_1.toNatClampNeg (some x7))))))))) 16 = .inl (6, (26, .inr (.inr (.inr (.inr (va_up f16 i1_1.toNatClampNeg (some x7))))))) := up_eq
        refine w_mv (pc1 := 8) (st1 := [.ref 10]) rfl rfl rfl ?_
        refine w_mv (pc1 := 9) (st1 := [.ref 10, .ref 10]) rfl rfl rfl ?_
        refine cw_gf (v := .int i15_3) (pc1 := 12) rfl (by omega) (by omega) g19 rfl rfl ?_
        refine w_mv (pc1 := 13) (st1 := [.int 1, .int i15_3, .ref 10]) rfl rfl rfl ?_
        refine w_mv (pc1 := 14) (st1 := [.int i1_1, .int 1, .int i15_3, .ref 10]) rfl rfl rfl ?_
        refine w_mv (pc1 := 15) (st1 := [.int (c_shl 1 i1_1), .int i15_3, .ref 10]) rfl rfl rfl ?_
        refine w_mv (pc1 := 16) (st1 := [.int (i15_3 ||| c_shl 1 i1_1), .ref 10]) rfl rfl rfl ?_
        refine cw_pf (c1 := .inr (.inl (3, [.ref 11, .ref 13, .ref 16, .int (i15_3 ||| c_shl 1 i1_1), va_rf o15_4]))) (pc1 := 19) rfl (by omega) (by omega) g19 rfl rfl rfl rfl ?_
        have g22 : (va_up (va_up G6 16 (.inl (6, (26, .inr (.inr (.inr (.inr (va_up f16 i1_1.toNatClampNeg (some x7))))))))) 10 (.inr (.inl (3, [.ref 11, .ref 13, .ref 16, .int (i15_3 ||| c_shl 1 i1_1), va_rf o15_4])))) x7 = .inr (.inl (10, [.ref (x7 + 1), .int i18_1, .int i18_2, .int i18_3, va_rf o18_4])) := (va_ne (ne_ob g20 g19 (by decide))).trans g20
        have g23 : (va_up (va_up G6 16 (.inl (6, (26, .inr (.inr (.inr (.inr (va_up f16 i1_1.toNatClampNeg (some x7))))))))) 10 (.inr (.inl (3, [.ref 11, .ref 13, .ref 16, .int (i15_3 ||| c_shl 1 i1_1), va_rf o15_4])))) 16 = .inl (6, (26, .inr (.inr (.inr (.inr (va_up f16 i1_1.toNatClampNeg (some x7))))))) := (va_ne (ne_ao g21 g19)).trans g21
        have g24 : (va_up (va_up G6 16 (.inl (6, (26, .inr (.inr (.inr (.inr (va_up f16 i1_1.toNatClampNeg (some x7))))))))) 10 (.inr (.inl (3, [.ref 11, .ref 13, .ref 16, .int (i15_3 ||| c_shl 1 i1_1), va_rf o15_4])))) 10 = .inr (.inl (3, [.ref 11, .ref 13, .ref 16, .int (i15_3 ||| c_shl 1 i1_1), va_rf o15_4])) := up_eq
        refine w_vret (pc1 := 33) rfl rfl rfl ?_
        refine w_wk (l1 := [(0, .ref 10), (1, .ref y1)]) rfl ⟨rfl, rfl, trivial⟩ ?_
        refine hh d _ _ P (fun r N1 G1 kc1 ks1 q => ?_)
        exact c_acc (hP r N1 G1 _ _ q) (by omega) (by omega)
    ·
      replace hh := hh.2 h4
      refine w_zeq_F (pc1 := 11) rfl (by decide) rfl (show (c_ushr i3_3 i1_1 &&& 1).toInt ≠ 0 from h4) ?_
      refine w_mv (pc1 := 12) (st1 := [.int 1]) rfl rfl rfl ?_
      refine w_mv (pc1 := 16) (st1 := [.int 1]) rfl rfl rfl ?_
      refine w_iret (pc1 := 15) rfl rfl rfl rfl ?_
      refine w_mv (pc1 := 33) (st1 := []) rfl rfl rfl ?_
      refine w_wk (l1 := [(0, .ref 10), (1, .ref y1)]) rfl ⟨rfl, rfl, trivial⟩ ?_
      refine hh d _ _ P (fun r N1 G1 kc1 ks1 q => ?_)
      exact c_acc (hP r N1 G1 _ _ q) (by omega) (by omega)
  ·
    replace hh := hh.1 h2
    refine w_zne_T (pc1 := 43) rfl rfl (show i1_0.toInt ≠ 0 from h2) ?_
    refine w_mv (pc1 := 44) (st1 := [.ref 10]) rfl rfl rfl ?_
    obtain ⟨b25b, i25_3, o25_4, g25, hh⟩ := hh
    refine cw_gf (v := .ref 11) (pc1 := 47) rfl (by omega) (by omega) g25 rfl rfl ?_
    refine w_mv (pc1 := 48) (st1 := [.ref y1, .ref 11]) rfl rfl rfl ?_
    refine cw_gf (v := .int i1_0) (pc1 := 51) rfl (by omega) (by omega) g1 rfl rfl ?_
    refine w_mv (pc1 := 52) (st1 := [.ref y1, .int i1_0, .ref 11]) rfl rfl rfl ?_
    refine cw_gf (v := .int i1_1) (pc1 := 55) rfl (by omega) (by omega) g1 rfl rfl ?_
    obtain ⟨b26b, i26_1, i26_2, g26, hh⟩ := hh
    refine w_call (M' := sM_59) (vals := [.ref 11, .int i1_0, .int i1_1]) (rest := []) (lv' := [(0, .ref 11), (1, .int i1_0), (2, .int i1_1)]) rfl rfl rfl rfl rfl rfl (cH_rcv (by omega) (by omega) g26) rfl rfl rfl ?_
    refine hh _ _ _ _ (fun r27 N27 G27 kc27 ks27 hh => ?_)
    obtain ⟨o27, er27, hh⟩ := hh
    subst er27
    refine w_kr (pc1 := 58) rfl ?_
    refine w_mv (pc1 := 59) (lv1 := [(2, va_rf o27), (0, .ref 10), (1, .ref y1)]) (st1 := []) rfl rfl (by cases o27 <;> rfl) ?_
    refine w_mv (pc1 := 60) (st1 := [.int 0]) rfl rfl rfl ?_
    refine w_mv (pc1 := 61) (lv1 := [(3, .int 0), (2, va_rf o27), (0, .ref 10), (1, .ref y1)]) (st1 := []) rfl rfl (by cases o27 <;> rfl) ?_
    refine w_wk (l1 := [(0, .ref 10), (1, .ref y1), (2, va_rf o27), (3, .int 0)]) rfl ⟨rfl, rfl, rfl, rfl, trivial⟩ ?_
    refine hh d _ _ P (fun r N1 G1 kc1 ks1 q => ?_)
    exact c_acc (hP r N1 G1 _ _ q) (by omega) (by omega)
set_option maxRecDepth 20000 in
set_option maxHeartbeats 4000000 in
theorem k_56_33 {h : Nat} {y1 : Nat} {N : Nat} {G : Nat → sx_C} {K : Option Value ⊕ Nat → Nat → (Nat → sx_C) → Nat → Nat → Prop} (hh : 10 < N ∧ ∃ (i1_3 : Int32) (o1_4 : Option Nat), G 10 = .inr (.inl (3, [.ref 11, .ref 13, .ref 16, .int i1_3, va_rf o1_4])) ∧ 5 ≤ y1 ∧ y1 < N ∧ ∃ (i2_0 : Int32) (i2_1 : Int32) (i2_3 : Int32) (i2_4 : Int32), G y1 = .inr (.inl (7, [.int i2_0, .int i2_1, .ref (y1 + 1), .int i2_3, .int i2_4])) ∧ 16 < N ∧ ∃ (f3 : Nat → Option Nat), G 16 = .inl (6, (26, .inr (.inr (.inr (.inr f3))))) ∧ 0 ≤ i2_1.toInt ∧ i2_1.toInt < (26 : Nat) ∧ ∃ x5, f3 i2_1.toNatClampNeg = some x5 ∧ K (.inl (some (.ref x5))) (N) G (0) (0)) : cT (h + 10) sM_56 33 [(0, .ref 10), (1, .ref y1)] [] N G K := by
  intro d dc ds P hP
  show s_wp (d + h + 10) _ _ _ _ _ _ _ _
  refine w_mv (pc1 := 34) (st1 := [.ref 10]) rfl rfl rfl ?_
  obtain ⟨b1b, i1_3, o1_4, g1, hh⟩ := hh
  refine cw_gf (v := .ref 16) (pc1 := 37) rfl (by omega) (by omega) g1 rfl rfl ?_
  refine w_mv (pc1 := 38) (st1 := [.ref y1, .ref 16]) rfl rfl rfl ?_
  obtain ⟨b2a, b2b, i2_0, i2_1, i2_3, i2_4, g2, hh⟩ := hh
  refine cw_gf (v := .int i2_1) (pc1 := 41) rfl (by omega) (by omega) g2 rfl rfl ?_
  obtain ⟨b3b, f3, g3, hh⟩ := hh
  obtain ⟨q4a, q4b, hh⟩ := hh
  refine cw_ald (pc1 := 42) rfl (by omega) g3 rfl q4a q4b rfl ?_
  obtain ⟨x5, e5, hh⟩ := hh
  rw [e5]
  refine sx_wp.stop rfl rfl rfl ?_
  exact c_acc (hP _ _ _ _ _ hh) (by omega) (by omega)
set_option maxRecDepth 20000 in
set_option maxHeartbeats 4000000 in
theorem k_56_61 {h : Nat} {y1 : Nat} {o0_2 : Option Nat} {p3 : Int32} {N : Nat} {G : Nat → sx_C} {K : Option Value ⊕ Nat → Nat → (Nat → sx_C) → Nat → Nat → Prop} (hh : 5 ≤ y1 ∧ y1 < N ∧ ∃ (i1_0 : Int32) (i1_1 : Int32) (i1_3 : Int32) (i1_4 : Int32), G y1 = .inr (.inl (7, [.int i1_0, .int i1_1, .ref (y1 + 1), .int i1_3, .int i1_4])) ∧ ((i1_3.toInt ≤ p3.toInt → K (.inl (some (va_rf o0_2))) (N) G (0) (0)) ∧ (p3.toInt < i1_3.toInt → 5 ≤ y1 + 1 ∧ y1 + 1 < N ∧ ∃ (n3 : Nat) (f3 : Nat → Option Nat), G (y1 + 1) = .inl (8, (n3, .inr (.inr (.inr (.inr f3))))) ∧ 0 ≤ p3.toInt ∧ p3.toInt < (n3 : Nat) ∧ ∃ x5, f3 p3.toNatClampNeg = some x5 ∧ 10 < N ∧ ∃ (i6_3 : Int32) (o6_4 : Option Nat), G 10 = .inr (.inl (3, [.ref 11, .ref 13, .ref 16, .int i6_3, va_rf o6_4])) ∧ cT (h) sM_56 0 [(0, .ref 10), (1, .ref x5)] [] (N) G (fun r7 N7 G7 kc7 ks7 => ∃ o7 : Option Nat, r7 = .inl (some (va_rf o7)) ∧ ((o7 = none → ((o0_2 = none → False) ∧ (∀ x9, o0_2 = some x9 → 5 ≤ x9 ∧ x9 < N7 ∧ ∃ (i10_1 : Int32) (i10_2 : Int32) (i10_3 : Int32) (o10_4 : Option Nat), G7 x9 = .inr (.inl (10, [.ref (x9 + 1), .int i10_1, .int i10_2, .int i10_3, va_rf o10_4])) ∧ ((3 ≤ i10_3.toInt → cT (h + 10) sM_56 61 [(0, .ref 10), (1, .ref y1), (2, va_rf (some x9)), (3, .int (p3 + 1))] [] (N7) G7 (fun r N1 G1 kc1 ks1 => K r N1 G1 (kc7 + kc1) (ks7 + ks1))) ∧ (i10_3.toInt < 3 → 5 ≤ x9 + 1 ∧ x9 + 1 < N7 ∧ ∃ (f12 : Nat → Option Nat), G7 (x9 + 1) = .inl (6, (3, .inr (.inr (.inr (.inr f12))))) ∧ 0 ≤ i10_3.toInt ∧ i10_3.toInt < (3 : Nat) ∧ cT (h + 10) sM_56 61 [(0, .ref 10), (1, .ref y1), (2, va_rf (some x9)), (3, .int (p3 + 1))] [] (N7) (va_up (va_up G7 (x9 + 1) (.inl (6, (3, .inr (.inr (.inr (.inr (va_up f12 i10_3.toNatClampNeg none)))))))) x9 (.inr (.inl (10, [.ref (x9 + 1), .int i10_1, .int i10_2, .int (i10_3 + 1), va_rf o10_4])))) (fun r N1 G1 kc1 ks1 => K r N1 G1 (kc7 + kc1) (ks7 + ks1))))))) ∧ (∀ x8, o7 = some x8 → ((o0_2 = none → False) ∧ (∀ x18, o0_2 = some x18 → 5 ≤ x18 ∧ x18 < N7 ∧ ∃ (i19_1 : Int32) (i19_2 : Int32) (i19_3 : Int32) (o19_4 : Option Nat), G7 x18 = .inr (.inl (10, [.ref (x18 + 1), .int i19_1, .int i19_2, .int i19_3, va_rf o19_4])) ∧ ((3 ≤ i19_3.toInt → cT (h + 10) sM_56 61 [(0, .ref 10), (1, .ref y1), (2, va_rf (some x18)), (3, .int (p3 + 1))] [] (N7) G7 (fun r N1 G1 kc1 ks1 => K r N1 G1 (kc7 + kc1) (ks7 + ks1))) ∧ (i19_3.toInt < 3 → 5 ≤ x18 + 1 ∧ x18 + 1 < N7 ∧ ∃ (f21 : Nat → Option Nat), G7 (x18 + 1) = .inl (6, (3, .inr (.inr (.inr (.inr f21))))) ∧ 0 ≤ i19_3.toInt ∧ i19_3.toInt < (3 : Nat) ∧ 5 ≤ x8 ∧ x8 < N7 ∧ ∃ (i23_1 : Int32) (i23_2 : Int32) (i23_3 : Int32) (o23_4 : Option Nat), G7 x8 = .inr (.inl (10, [.ref (x8 + 1), .int i23_1, .int i23_2, .int i23_3, va_rf o23_4])) ∧ cT (h + 10) sM_56 61 [(0, .ref 10), (1, .ref y1), (2, va_rf (some x18)), (3, .int (p3 + 1))] [] (N7) (va_up (va_up G7 (x18 + 1) (.inl (6, (3, .inr (.inr (.inr (.inr (va_up f21 i19_3.toNatClampNeg (some x8))))))))) x18 (.inr (.inl (10, [.ref (x18 + 1), .int i19_1, .int i19_2, .int (i19_3 + 1), va_rf o19_4])))) (fun r N1 G1 kc1 ks1 => K r N1 G1 (kc7 + kc1) (ks7 + ks1)))))))))))) : cT (h + 10) sM_56 61 [(0, .ref 10), (1, .ref y1), (2, va_rf o0_2), (3, .int p3)] [] N G K := by
  intro d dc ds P hP
  show s_wp (d + h + 10) _ _ _ _ _ _ _ _
  refine w_mv (pc1 := 62) (st1 := [.int p3]) rfl rfl rfl ?_
  refine w_mv (pc1 := 63) (st1 := [.ref y1, .int p3]) rfl rfl rfl ?_
  obtain ⟨b1a, b1b, i1_0, i1_1, i1_3, i1_4, g1, hh⟩ := hh
  refine cw_gf (v := .int i1_3) (pc1 := 66) rfl (by omega) (by omega) g1 rfl rfl ?_
  by_cases h2 : i1_3.toInt ≤ p3.toInt
  ·
    replace hh := hh.1 h2
    refine w_ige_T (pc1 := 89) rfl rfl (show i1_3.toInt ≤ p3.toInt from h2) ?_
    refine w_mv (pc1 := 90) (lv1 := [(0, .ref 10), (1, .ref y1), (2, va_rf o0_2), (3, .int p3)]) (st1 := [va_rf o0_2]) rfl rfl (by cases o0_2 <;> rfl) ?_
    refine sx_wp.stop (v := .inl (some (va_rf o0_2))) (hs1 := cH (N) G) (dc1 := 0) (ds1 := 0) rfl rfl (by cases o0_2 <;> rfl) ?_
    exact c_acc (hP _ _ _ _ _ hh) (by omega) (by omega)
  ·
    replace hh := hh.2 (Int.not_le.mp h2)
    refine w_ige_F (pc1 := 69) rfl (by decide) rfl (show p3.toInt < i1_3.toInt from (Int.not_le.mp h2)) ?_
    refine w_mv (pc1 := 70) (lv1 := [(0, .ref 10), (1, .ref y1), (2, va_rf o0_2), (3, .int p3)]) (st1 := [va_rf o0_2]) rfl rfl (by cases o0_2 <;> rfl) ?_
    refine w_mv (pc1 := 71) (st1 := [.ref 10, va_rf o0_2]) rfl rfl rfl ?_
    refine w_mv (pc1 := 72) (st1 := [.ref y1, .ref 10, va_rf o0_2]) rfl rfl rfl ?_
    refine cw_gf (v := .ref (y1 + 1)) (pc1 := 75) rfl (by omega) (by omega) g1 rfl rfl ?_
    refine w_mv (pc1 := 76) (st1 := [.int p3, .ref (y1 + 1), .ref 10, va_rf o0_2]) rfl rfl rfl ?_
    obtain ⟨b3a, b3b, n3, f3, g3, hh⟩ := hh
    obtain ⟨q4a, q4b, hh⟩ := hh
    refine cw_ald (pc1 := 77) rfl (by omega) g3 rfl q4a q4b rfl ?_
    obtain ⟨x5, e5, hh⟩ := hh
    rw [e5]
    obtain ⟨b6b, i6_3, o6_4, g6, hh⟩ := hh
    refine w_call (M' := sM_56) (vals := [.ref 10, .ref x5]) (rest := [va_rf o0_2]) (lv' := [(0, .ref 10), (1, .ref x5)]) rfl rfl rfl rfl rfl rfl (cH_rcv (by omega) (by omega) g6) (by cases o0_2 <;> rfl) rfl rfl ?_
    refine c_dep (d1 := d + 9 + h) (by omega) (hh _ _ _ _ (fun r7 N7 G7 kc7 ks7 hh => ?_))
    obtain ⟨o7, er7, hh⟩ := hh
    subst er7
    refine w_kr (pc1 := 80) rfl ?_
    cases o7 with
    | none =>
      replace hh := hh.1 rfl
      cases o0_2 with
      | none =>
        replace hh := hh.1 rfl
        exact hh.elim
      | some x9 =>
        replace hh := hh.2 x9 rfl
        obtain ⟨b10a, b10b, i10_1, i10_2, i10_3, o10_4, g10, hh⟩ := hh
        refine w_call (M' := sM_62) (vals := [.ref x9, .null]) (rest := []) (lv' := [(0, .ref x9), (1, .null)]) rfl rfl rfl rfl rfl rfl (cH_rcv (by omega) (by omega) g10) rfl rfl rfl ?_
        refine w_mv (pc1 := 1) (st1 := [.ref x9]) rfl rfl rfl ?_
        refine cw_gf (v := .int i10_3) (pc1 := 4) rfl (by omega) (by omega) g10 rfl rfl ?_
        refine w_mv (pc1 := 5) (st1 := [.int 3, .int i10_3]) rfl rfl rfl ?_
        by_cases h11 : 3 ≤ i10_3.toInt
        ·
          replace hh := hh.1 h11
          refine w_ige_T (pc1 := 28) rfl rfl (show 3 ≤ i10_3.toInt from h11) ?_
          refine w_vret (pc1 := 83) rfl rfl rfl ?_
          refine w_mv (pc1 := 86) (lv1 := [(3, .int (p3 + 1)), (0, .ref 10), (1, .ref y1), (2, .ref x9)]) (st1 := []) rfl rfl rfl ?_
          refine w_mv (pc1 := 61) (st1 := []) rfl rfl rfl ?_
          refine w_wk (l1 := [(0, .ref 10), (1, .ref y1), (2, va_rf (some x9)), (3, .int (p3 + 1))]) rfl ⟨rfl, rfl, rfl, rfl, trivial⟩ ?_
          refine hh d _ _ P (fun r N1 G1 kc1 ks1 q => ?_)
          exact c_acc (hP r N1 G1 _ _ q) (by omega) (by omega)
        ·
          replace hh := hh.2 (Int.not_le.mp h11)
          refine w_ige_F (pc1 := 8) rfl (by decide) rfl (show i10_3.toInt < 3 from (Int.not_le.mp h11)) ?_
          refine w_mv (pc1 := 9) (st1 := [.ref x9]) rfl rfl rfl ?_
          refine cw_gf (v := .ref (x9 + 1)) (pc1 := 12) rfl (by omega) (by omega) g10 rfl rfl ?_
          refine w_mv (pc1 := 13) (st1 := [.ref x9, .ref (x9 + 1)]) rfl rfl rfl ?_
          refine cw_gf (v := .int i10_3) (pc1 := 16) rfl (by omega) (by omega) g10 rfl rfl ?_
          refine w_mv (pc1 := 17) (st1 := [.null, .int i10_3, .ref (x9 + 1)]) rfl rfl rfl ?_
          obtain ⟨b12a, b12b, f12, g12, hh⟩ := hh
          obtain ⟨q13a, q13b, hh⟩ := hh
          refine cw_asN (pc1 := 18) rfl (by omega) (by omega) g12 rfl q13a q13b rfl ?_
          have g14 : (va_up G7 (x9 + 1) (.inl (6, (3, .inr (.inr (.inr (.inr (va_up f12 i10_3.toNatClampNeg none)))))))) x9 = .inr (.inl (10, [.ref (x9 + 1), .int i10_1, .int i10_2, .int i10_3, va_rf o10_4])) := (va_ne (ne_oa g10 g12)).trans g10
          have g15 : (va_up G7 (x9 + 1) (.inl (6, (3, .inr (.inr (.inr (.inr (va_up f12 i10_3.toNatClampNeg none)))))))) (x9 + 1) = .inl (6, (3, .inr (.inr (.inr (.inr (va_up f12 i10_3.toNatClampNeg none)))))) := up_eq
          refine w_mv (pc1 := 19) (st1 := [.ref x9]) rfl rfl rfl ?_
          refine w_mv (pc1 := 20) (st1 := [.ref x9, .ref x9]) rfl rfl rfl ?_
          refine cw_gf (v := .int i10_3) (pc1 := 23) rfl (by omega) (by omega) g14 rfl rfl ?_
          refine w_mv (pc1 := 24) (st1 := [.int 1, .int i10_3, .ref x9]) rfl rfl rfl ?_
          refine w_mv (pc1 := 25) (st1 := [.int (i10_3 + 1), .ref x9]) rfl rfl rfl ?_
          refine cw_pf (c1 := .inr (.inl (10, [.ref (x9 + 1), .int i10_1, .int i10_2, .int (i10_3 + 1), va_rf o10_4]))) (pc1 := 28) rfl (by omega) (by omega) g14 rfl rfl rfl rfl ?_
          have g16 : (va_up (va_up G7 (x9 + 1) (.inl (6, (3, .inr (.inr (.inr (.inr (va_up f12 i10_3.toNatClampNeg none)))))))) x9 (.inr (.inl (10, [.ref (x9 + 1), .int i10_1, .int i10_2, .int (i10_3 + 1), va_rf o10_4])))) (x9 + 1) = .inl (6, (3, .inr (.inr (.inr (.inr (va_up f12 i10_3.toNatClampNeg none)))))) := (va_ne (ne_ao g15 g14)).trans g15
          have g17 : (va_up (va_up G7 (x9 + 1) (.inl (6, (3, .inr (.inr (.inr (.inr (va_up f12 i10_3.toNatClampNeg none)))))))) x9 (.inr (.inl (10, [.ref (x9 + 1), .int i10_1, .int i10_2, .int (i10_3 + 1), va_rf o10_4])))) x9 = .inr (.inl (10, [.ref (x9 + 1), .int i10_1, .int i10_2, .int (i10_3 + 1), va_rf o10_4])) := up_eq
          refine w_vret (pc1 := 83) rfl rfl rfl ?_
          refine w_mv (pc1 := 86) (lv1 := [(3, .int (p3 + 1)), (0, .ref 10), (1, .ref y1), (2, .ref x9)]) (st1 := []) rfl rfl rfl ?_
          refine w_mv (pc1 := 61) (st1 := []) rfl rfl rfl ?_
          refine w_wk (l1 := [(0, .ref 10), (1, .ref y1), (2, va_rf (some x9)), (3, .int (p3 + 1))]) rfl ⟨rfl, rfl, rfl, rfl, trivial⟩ ?_
          refine hh d _ _ P (fun r N1 G1 kc1 ks1 q => ?_)
          exact c_acc (hP r N1 G1 _ _ q) (by omega) (by omega)
    | some x8 =>
      replace hh := hh.2 x8 rfl
      cases o0_2 with
      | none =>
        replace hh := hh.1 rfl
        exact hh.elim
      | some x18 =>
        replace hh := hh.2 x18 rfl
        obtain ⟨b19a, b19b, i19_1, i19_2, i19_3, o19_4, g19, hh⟩ := hh
        refine w_call (M' := sM_62) (vals := [.ref x18, .ref x8]) (rest := []) (lv' := [(0, .ref x18), (1, .ref x8)]) rfl rfl rfl rfl rfl rfl (cH_rcv (by omega) (by omega) g19) rfl rfl rfl ?_
        refine w_mv (pc1 := 1) (st1 := [.ref x18]) rfl rfl rfl ?_
        refine cw_gf (v := .int i19_3) (pc1 := 4) rfl (by omega) (by omega) g19 rfl rfl ?_
        refine w_mv (pc1 := 5) (st1 := [.int 3, .int i19_3]) rfl rfl rfl ?_
        by_cases h20 : 3 ≤ i19_3.toInt
        ·
          replace hh := hh.1 h20
          refine w_ige_T (pc1 := 28) rfl rfl (show 3 ≤ i19_3.toInt from h20) ?_
          refine w_vret (pc1 := 83) rfl rfl rfl ?_
          refine w_mv (pc1 := 86) (lv1 := [(3, .int (p3 + 1)), (0, .ref 10), (1, .ref y1), (2, .ref x18)]) (st1 := []) rfl rfl rfl ?_
          refine w_mv (pc1 := 61) (st1 := []) rfl rfl rfl ?_
          refine w_wk (l1 := [(0, .ref 10), (1, .ref y1), (2, va_rf (some x18)), (3, .int (p3 + 1))]) rfl ⟨rfl, rfl, rfl, rfl, trivial⟩ ?_
          refine hh d _ _ P (fun r N1 G1 kc1 ks1 q => ?_)
          exact c_acc (hP r N1 G1 _ _ q) (by omega) (by omega)
        ·
          replace hh := hh.2 (Int.not_le.mp h20)
          refine w_ige_F (pc1 := 8) rfl (by decide) rfl (show i19_3.toInt < 3 from (Int.not_le.mp h20)) ?_
          refine w_mv (pc1 := 9) (st1 := [.ref x18]) rfl rfl rfl ?_
          refine cw_gf (v := .ref (x18 + 1)) (pc1 := 12) rfl (by omega) (by omega) g19 rfl rfl ?_
          refine w_mv (pc1 := 13) (st1 := [.ref x18, .ref (x18 + 1)]) rfl rfl rfl ?_
          refine cw_gf (v := .int i19_3) (pc1 := 16) rfl (by omega) (by omega) g19 rfl rfl ?_
          refine w_mv (pc1 := 17) (st1 := [.ref x8, .int i19_3, .ref (x18 + 1)]) rfl rfl rfl ?_
          obtain ⟨b21a, b21b, f21, g21, hh⟩ := hh
          obtain ⟨q22a, q22b, hh⟩ := hh
          obtain ⟨b23a, b23b, i23_1, i23_2, i23_3, o23_4, g23, hh⟩ := hh
          refine cw_as (pc1 := 18) rfl (by omega) (by omega) g21 (by omega) (by omega) g23 rfl q22a q22b rfl ?_
          have g24 : (va_up G7 (x18 + 1) (.inl (6, (3, .inr (.inr (.inr (.inr (va_up f21 i19_3.toNatClampNeg (some x8))))))))) x18 = .inr (.inl (10, [.ref (x18 + 1), .int i19_1, .int i19_2, .int i19_3, va_rf o19_4])) := (va_ne (ne_oa g19 g21)).trans g19
          have g25 : (va_up G7 (x18 + 1) (.inl (6, (3, .inr (.inr (.inr (.inr (va_up f21 i19_3.toNatClampNeg (some x8))))))))) x8 = .inr (.inl (10, [.ref (x8 + 1), .int i23_1, .int i23_2, .int i23_3, va_rf o23_4])) := (va_ne (ne_oa g23 g21)).trans g23
          have g26 : (va_up G7 (x18 + 1) (.inl (6, (3, .inr (.inr (.inr (.inr (va_up f21 i19_3.toNatClampNeg (some x8))))))))) (x18 + 1) = .inl (6, (3, .inr (.inr (.inr (.inr (va_up f21 i19_3.toNatClampNeg (some x8))))))) := up_eq
          refine w_mv (pc1 := 19) (st1 := [.ref x18]) rfl rfl rfl ?_
          refine w_mv (pc1 := 20) (st1 := [.ref x18, .ref x18]) rfl rfl rfl ?_
          refine cw_gf (v := .int i19_3) (pc1 := 23) rfl (by omega) (by omega) g24 rfl rfl ?_
          refine w_mv (pc1 := 24) (st1 := [.int 1, .int i19_3, .ref x18]) rfl rfl rfl ?_
          refine w_mv (pc1 := 25) (st1 := [.int (i19_3 + 1), .ref x18]) rfl rfl rfl ?_
          refine cw_pf (c1 := .inr (.inl (10, [.ref (x18 + 1), .int i19_1, .int i19_2, .int (i19_3 + 1), va_rf o19_4]))) (pc1 := 28) rfl (by omega) (by omega) g24 rfl rfl rfl rfl ?_
          have g27 : (va_up (va_up G7 (x18 + 1) (.inl (6, (3, .inr (.inr (.inr (.inr (va_up f21 i19_3.toNatClampNeg (some x8))))))))) x18 (.inr (.inl (10, [.ref (x18 + 1), .int i19_1, .int i19_2, .int (i19_3 + 1), va_rf o19_4])))) (x18 + 1) = .inl (6, (3, .inr (.inr (.inr (.inr (va_up f21 i19_3.toNatClampNeg (some x8))))))) := (va_ne (ne_ao g26 g24)).trans g26
          have g28 : (va_up (va_up G7 (x18 + 1) (.inl (6, (3, .inr (.inr (.inr (.inr (va_up f21 i19_3.toNatClampNeg (some x8))))))))) x18 (.inr (.inl (10, [.ref (x18 + 1), .int i19_1, .int i19_2, .int (i19_3 + 1), va_rf o19_4])))) x18 = .inr (.inl (10, [.ref (x18 + 1), .int i19_1, .int i19_2, .int (i19_3 + 1), va_rf o19_4])) := up_eq
          refine w_vret (pc1 := 83) rfl rfl rfl ?_
          refine w_mv (pc1 := 86) (lv1 := [(3, .int (p3 + 1)), (0, .ref 10), (1, .ref y1), (2, .ref x18)]) (st1 := []) rfl rfl rfl ?_
          refine w_mv (pc1 := 61) (st1 := []) rfl rfl rfl ?_
          refine w_wk (l1 := [(0, .ref 10), (1, .ref y1), (2, va_rf (some x18)), (3, .int (p3 + 1))]) rfl ⟨rfl, rfl, rfl, rfl, trivial⟩ ?_
          refine hh d _ _ P (fun r N1 G1 kc1 ks1 q => ?_)
          exact c_acc (hP r N1 G1 _ _ q) (by omega) (by omega)
set_option maxRecDepth 20000 in
set_option maxHeartbeats 4000000 in
theorem k_58_0  {N : Nat} {G : Nat → sx_C} {K : Option Value ⊕ Nat → Nat → (Nat → sx_C) → Nat → Nat → Prop} (hh : 11 < N ∧ ∃ (i1_1 : Int32) (i1_2 : Int32), G 11 = .inr (.inl (4, [.ref 12, .int i1_1, .int i1_2])) ∧ cT (8) sM_59 0 [(0, .ref 11), (1, .int 0), (2, .int (i1_2 + 1))] [] (N) (va_up G 11 (.inr (.inl (4, [.ref 12, .int i1_1, .int (i1_2 + 1)])))) (fun r3 N3 G3 kc3 ks3 => ∃ o3 : Option Nat, r3 = .inl (some (va_rf o3)) ∧ K (.inl (some (va_rf o3))) (N3) G3 (kc3) (ks3))) : cT (9) sM_58 0 [(0, .ref 11)] [] N G K := by
  intro d dc ds P hP
  refine w_mv (pc1 := 1) (st1 := [.ref 11]) rfl rfl rfl ?_
  refine w_mv (pc1 := 2) (st1 := [.ref 11, .ref 11]) rfl rfl rfl ?_
  obtain ⟨b1b, i1_1, i1_2, g1, hh⟩ := hh
  refine cw_gf (v := .int i1_2) (pc1 := 5) rfl (by omega) (by omega) g1 rfl rfl ?_
  refine w_mv (pc1 := 6) (st1 := [.int 1, .int i1_2, .ref 11]) rfl rfl rfl ?_
  refine w_mv (pc1 := 7) (st1 := [.int (i1_2 + 1), .ref 11]) rfl rfl rfl ?_
  refine cw_pf (c1 := .inr (.inl (4, [.ref 12, .int i1_1, .int (i1_2 + 1)]))) (pc1 := 10) rfl (by omega) (by omega) g1 rfl rfl rfl rfl ?_
  have g2 : (va_up G 11 (.inr (.inl (4, [.ref 12, .int i1_1, .int (i1_2 + 1)])))) 11 = .inr (.inl (4, [.ref 12, .int i1_1, .int (i1_2 + 1)])) := up_eq
  refine w_mv (pc1 := 11) (st1 := [.ref 11]) rfl rfl rfl ?_
  refine w_mv (pc1 := 12) (st1 := [.int 0, .ref 11]) rfl rfl rfl ?_
  refine w_mv (pc1 := 13) (st1 := [.ref 11, .int 0, .ref 11]) rfl rfl rfl ?_
  refine cw_gf (v := .int (i1_2 + 1)) (pc1 := 16) rfl (by omega) (by omega) g2 rfl rfl ?_
  refine w_call (M' := sM_59) (vals := [.ref 11, .int 0, .int (i1_2 + 1)]) (rest := []) (lv' := [(0, .ref 11), (1, .int 0), (2, .int (i1_2 + 1))]) rfl rfl rfl rfl rfl rfl (cH_rcv (by omega) (by omega) g2) rfl rfl rfl ?_
  refine hh _ _ _ _ (fun r3 N3 G3 kc3 ks3 hh => ?_)
  obtain ⟨o3, er3, hh⟩ := hh
  subst er3
  refine w_kr (pc1 := 19) rfl ?_
  refine sx_wp.stop (v := .inl (some (va_rf o3))) (hs1 := cH (N3) G3) (dc1 := 0) (ds1 := 0) rfl rfl (by cases o3 <;> rfl) ?_
  exact c_acc (hP _ _ _ _ _ hh) (by omega) (by omega)
set_option maxRecDepth 20000 in
set_option maxHeartbeats 4000000 in
theorem k_59_0 {p1 : Int32} {p2 : Int32} {N : Nat} {G : Nat → sx_C} {K : Option Value ⊕ Nat → Nat → (Nat → sx_C) → Nat → Nat → Prop} (hh : 11 < N ∧ ∃ (i1_1 : Int32) (i1_2 : Int32), G 11 = .inr (.inl (4, [.ref 12, .int i1_1, .int i1_2])) ∧ 12 < N ∧ ∃ (r2_0 : Nat) (i2_1 : Int32) (i2_2 : Int32), G 12 = .inr (.inl (13, [.ref r2_0, .int i2_1, .int i2_2])) ∧ ((i1_1.toInt < i2_1.toInt → ((i1_1.toInt < 0 → False) ∧ (0 ≤ i1_1.toInt → ((i1_1.toInt < i2_1.toInt → r2_0 < N ∧ ∃ (n6 : Nat) (f6 : Nat → Option Nat), G r2_0 = .inl (4, (n6, .inr (.inr (.inr (.inr f6))))) ∧ 0 ≤ i1_1.toInt ∧ i1_1.toInt < (n6 : Nat) ∧ ∃ x8, f6 i1_1.toNatClampNeg = some x8 ∧ 5 ≤ x8 ∧ x8 < N ∧ ∃ (i9_1 : Int32) (i9_2 : Int32) (i9_3 : Int32) (o9_4 : Option Nat), G x8 = .inr (.inl (10, [.ref (x8 + 1), .int i9_1, .int i9_2, .int i9_3, va_rf o9_4])) ∧ K (.inl (some (.ref x8))) (N) (va_up (va_up G 11 (.inr (.inl (4, [.ref 12, .int (i1_1 + 1), .int i1_2])))) x8 (.inr (.inl (10, [.ref (x8 + 1), .int p1, .int p2, .int 0, .null])))) (0) (0)) ∧ (i2_1.toInt ≤ i1_1.toInt → False))))) ∧ (i2_1.toInt ≤ i1_1.toInt → 5 ≤ N ∧ cT (7) sM_166 0 [(0, .ref 12), (1, .ref N)] [] (N + 1 + 1) (va_up (va_up (va_up G N (.inr (.inl (10, [.null, .int 0, .int 0, .int 0, .null])))) (N + 1) (.inl (6, (3, .inr (.inr (.inr (.inr (fun _ => none)))))))) N (.inr (.inl (10, [.ref (N + 1), .int 0, .int 0, .int 0, .null])))) (fun r42 N42 G42 kc42 ks42 => ∃ v42 : Int32, r42 = .inl (some (.int v42)) ∧ 11 < N42 ∧ ∃ (i43_1 : Int32) (i43_2 : Int32), G42 11 = .inr (.inl (4, [.ref 12, .int i43_1, .int i43_2])) ∧ 12 < N42 ∧ ∃ (r44_0 : Nat) (i44_1 : Int32) (i44_2 : Int32), G42 12 = .inr (.inl (13, [.ref r44_0, .int i44_1, .int i44_2])) ∧ ((i43_1.toInt < 0 → False) ∧ (0 ≤ i43_1.toInt → ((i43_1.toInt < i44_1.toInt → r44_0 < N42 ∧ ∃ (n47 : Nat) (f47 : Nat → Option Nat), G42 r44_0 = .inl (4, (n47, .inr (.inr (.inr (.inr f47))))) ∧ 0 ≤ i43_1.toInt ∧ i43_1.toInt < (n47 : Nat) ∧ ∃ x49, f47 i43_1.toNatClampNeg = some x49 ∧ 5 ≤ x49 ∧ x49 < N42 ∧ ∃ (i50_1 : Int32) (i50_2 : Int32) (i50_3 : Int32) (o50_4 : Option Nat), G42 x49 = .inr (.inl (10, [.ref (x49 + 1), .int i50_1, .int i50_2, .int i50_3, va_rf o50_4])) ∧ K (.inl (some (.ref x49))) (N42) (va_up (va_up G42 11 (.inr (.inl (4, [.ref 12, .int (i43_1 + 1), .int i43_2])))) x49 (.inr (.inl (10, [.ref (x49 + 1), .int p1, .int p2, .int 0, .null])))) (kc42 + 2) (ks42 + 8)) ∧ (i44_1.toInt ≤ i43_1.toInt → False)))))))) : cT (8) sM_59 0 [(0, .ref 11), (1, .int p1), (2, .int p2)] [] N G K := by
  intro d dc ds P hP
  refine w_mv (pc1 := 1) (st1 := [.ref 11]) rfl rfl rfl ?_
  obtain ⟨b1b, i1_1, i1_2, g1, hh⟩ := hh
  refine cw_gf (v := .int i1_1) (pc1 := 4) rfl (by omega) (by omega) g1 rfl rfl ?_
  refine w_mv (pc1 := 5) (st1 := [.ref 11, .int i1_1]) rfl rfl rfl ?_
  refine cw_gf (v := .ref 12) (pc1 := 8) rfl (by omega) (by omega) g1 rfl rfl ?_
  obtain ⟨b2b, r2_0, i2_1, i2_2, g2, hh⟩ := hh
  refine w_call (M' := sM_165) (vals := [.ref 12]) (rest := [.int i1_1]) (lv' := [(0, .ref 12)]) rfl rfl rfl rfl rfl rfl (cH_rcv (by omega) (by omega) g2) rfl rfl rfl ?_
  refine w_mv (pc1 := 1) (st1 := [.ref 12]) rfl rfl rfl ?_
  refine cw_gf (v := .int i2_1) (pc1 := 4) rfl (by omega) (by omega) g2 rfl rfl ?_
  refine w_iret (pc1 := 11) rfl rfl rfl rfl ?_
  by_cases h3 : i1_1.toInt < i2_1.toInt
  ·
    replace hh := hh.1 h3
    refine w_ilt_T (pc1 := 29) rfl rfl (show i1_1.toInt < i2_1.toInt from h3) ?_
    refine w_mv (pc1 := 30) (st1 := [.ref 11]) rfl rfl rfl ?_
    refine cw_gf (v := .ref 12) (pc1 := 33) rfl (by omega) (by omega) g1 rfl rfl ?_
    refine w_mv (pc1 := 34) (st1 := [.ref 11, .ref 12]) rfl rfl rfl ?_
    refine cw_gf (v := .int i1_1) (pc1 := 37) rfl (by omega) (by omega) g1 rfl rfl ?_
    refine w_call (M' := sM_179) (vals := [.ref 12, .int i1_1]) (rest := []) (lv' := [(0, .ref 12), (1, .int i1_1)]) rfl rfl rfl rfl rfl rfl (cH_rcv (by omega) (by omega) g2) rfl rfl rfl ?_
    refine w_mv (pc1 := 1) (st1 := [.int i1_1]) rfl rfl rfl ?_
    refine w_mv (pc1 := 2) (st1 := [.ref 12, .int i1_1]) rfl rfl rfl ?_
    refine cw_gf (v := .int i2_1) (pc1 := 5) rfl (by omega) (by omega) g2 rfl rfl ?_
    refine w_call (M' := sM_176) (vals := [.int i1_1, .int i2_1]) (rest := []) (lv' := [(0, .int i1_1), (1, .int i2_1)]) rfl rfl rfl rfl rfl rfl rfl rfl rfl rfl ?_
    refine w_mv (pc1 := 1) (st1 := [.int i1_1]) rfl rfl rfl ?_
    refine w_mv (pc1 := 2) (st1 := [.int i2_1, .int i1_1]) rfl rfl rfl ?_
    refine w_mv (pc1 := 3) (st1 := [.null, .int i2_1, .int i1_1]) rfl rfl rfl ?_
    refine w_call (M' := sM_177) (vals := [.int i1_1, .int i2_1, .null]) (rest := []) (lv' := [(0, .int i1_1), (1, .int i2_1), (2, .null)]) rfl rfl rfl rfl rfl rfl rfl rfl rfl rfl ?_
    refine w_mv (pc1 := 1) (st1 := [.int i1_1]) rfl rfl rfl ?_
    by_cases h4 : i1_1.toInt < 0
    ·
      replace hh := hh.1 h4
      refine w_zlt_T (pc1 := 9) rfl rfl (show i1_1.toInt < 0 from h4) ?_
      refine w_mv (pc1 := 10) (st1 := [.null]) rfl rfl rfl ?_
      refine w_mv (pc1 := 11) (st1 := [.int i1_1, .null]) rfl rfl rfl ?_
      refine w_mv (pc1 := 12) (st1 := [.int i2_1, .int i1_1, .null]) rfl rfl rfl ?_
      exact hh.elim
    ·
      replace hh := hh.2 (Int.not_lt.mp h4)
      refine w_zlt_F (pc1 := 4) rfl (by decide) rfl (show 0 ≤ i1_1.toInt from (Int.not_lt.mp h4)) ?_
      refine w_mv (pc1 := 5) (st1 := [.int i1_1]) rfl rfl rfl ?_
      refine w_mv (pc1 := 6) (st1 := [.int i2_1, .int i1_1]) rfl rfl rfl ?_
      by_cases h5 : i1_1.toInt < i2_1.toInt
      ·
        replace hh := hh.1 h5
        refine w_ilt_T (pc1 := 16) rfl rfl (show i1_1.toInt < i2_1.toInt from h5) ?_
        refine w_mv (pc1 := 17) (st1 := [.int i1_1]) rfl rfl rfl ?_
        refine w_iret (pc1 := 6) rfl rfl rfl rfl ?_
        refine w_iret (pc1 := 8) rfl rfl rfl rfl ?_
        refine w_mv (pc1 := 9) (st1 := []) rfl rfl rfl ?_
        refine w_mv (pc1 := 10) (st1 := [.ref 12]) rfl rfl rfl ?_
        refine w_mv (pc1 := 11) (st1 := [.int i1_1, .ref 12]) rfl rfl rfl ?_
        refine w_call (M' := sM_180) (vals := [.ref 12, .int i1_1]) (rest := []) (lv' := [(0, .ref 12), (1, .int i1_1)]) rfl rfl rfl rfl rfl rfl (cH_rcv (by omega) (by omega) g2) rfl rfl rfl ?_
        refine w_mv (pc1 := 1) (st1 := [.ref 12]) rfl rfl rfl ?_
        refine cw_gf (v := .ref r2_0) (pc1 := 4) rfl (by omega) (by omega) g2 rfl rfl ?_
        refine w_mv (pc1 := 5) (st1 := [.int i1_1, .ref r2_0]) rfl rfl rfl ?_
        obtain ⟨b6b, n6, f6, g6, hh⟩ := hh
        obtain ⟨q7a, q7b, hh⟩ := hh
        refine cw_ald (pc1 := 6) rfl (by omega) g6 rfl q7a q7b rfl ?_
        obtain ⟨x8, e8, hh⟩ := hh
        rw [e8]
        refine w_aret (pc1 := 14) rfl rfl rfl rfl ?_
        refine w_aret (pc1 := 40) rfl rfl rfl rfl ?_
        obtain ⟨b9a, b9b, i9_1, i9_2, i9_3, o9_4, g9, hh⟩ := hh
        refine cw_cast (pc1 := 43) rfl (by omega) (by omega) g9 rfl ?_
        refine w_mv (pc1 := 44) (lv1 := [(3, .ref x8), (0, .ref 11), (1, .int p1), (2, .int p2)]) (st1 := []) rfl rfl rfl ?_
        refine w_mv (pc1 := 45) (st1 := [.ref 11]) rfl rfl rfl ?_
        refine w_mv (pc1 := 46) (st1 := [.ref 11, .ref 11]) rfl rfl rfl ?_
        refine cw_gf (v := .int i1_1) (pc1 := 49) rfl (by omega) (by omega) g1 rfl rfl ?_
        refine w_mv (pc1 := 50) (st1 := [.int 1, .int i1_1, .ref 11]) rfl rfl rfl ?_
        refine w_mv (pc1 := 51) (st1 := [.int (i1_1 + 1), .ref 11]) rfl rfl rfl ?_
        refine cw_pf (c1 := .inr (.inl (4, [.ref 12, .int (i1_1 + 1), .int i1_2]))) (pc1 := 54) rfl (by omega) (by omega) g1 rfl rfl rfl rfl ?_
        have g10 : (va_up G 11 (.inr (.inl (4, [.ref 12, .int (i1_1 + 1), .int i1_2])))) 12 = .inr (.inl (13, [.ref r2_0, .int i2_1, .int i2_2])) := (va_ne (ne_ob g2 g1 (by decide))).trans g2
        have g11 : (va_up G 11 (.inr (.inl (4, [.ref 12, .int (i1_1 + 1), .int i1_2])))) r2_0 = .inl (4, (n6, .inr (.inr (.inr (.inr f6))))) := (va_ne (ne_ao g6 g1)).trans g6
        have g12 : (va_up G 11 (.inr (.inl (4, [.ref 12, .int (i1_1 + 1), .int i1_2])))) x8 = .inr (.inl (10, [.ref (x8 + 1), .int i9_1, .int i9_2, .int i9_3, va_rf o9_4])) := (va_ne (ne_ob g9 g1 (by decide))).trans g9
        have g13 : (va_up G 11 (.inr (.inl (4, [.ref 12, .int (i1_1 + 1), .int i1_2])))) 11 = .inr (.inl (4, [.ref 12, .int (i1_1 + 1), .int i1_2])) := up_eq
        refine w_mv (pc1 := 55) (st1 := [.ref x8]) rfl rfl rfl ?_
        refine w_mv (pc1 := 56) (st1 := [.int p1, .ref x8]) rfl rfl rfl ?_
        refine cw_pf (c1 := .inr (.inl (10, [.ref (x8 + 1), .int p1, .int i9_2, .int i9_3, va_rf o9_4]))) (pc1 := 59) rfl (by omega) (by omega) g12 rfl rfl rfl rfl ?_
        have g14 : (va_up (va_up G 11 (.inr (.inl (4, [.ref 12, .int (i1_1 + 1), .int i1_2])))) x8 (.inr (.inl (10, [.ref (x8 + 1), .int p1, .int i9_2, .int i9_3, va_rf o9_4])))) 12 = .inr (.inl (13, [.ref r2_0, .int i2_1, .int i2_2])) := (va_ne (ne_ob g10 g12 (by decide))).trans g10
        have g15 : (va_up (va_up G 11 (.inr (.inl (4, [.ref 12, .int (i1_1 + 1), .int i1_2])))) x8 (.inr (.inl (10, [.ref (x8 + 1), .int p1, .int i9_2, .int i9_3, va_rf o9_4])))) r2_0 = .inl (4, (n6, .inr (.inr (.inr (.inr f6))))) := (va_ne (ne_ao g11 g12)).trans g11
        have g16 : (va_up (va_up G 11 (.inr (.inl (4, [.ref 12, .int (i1_1 + 1), .int i1_2])))) x8 (.inr (.inl (10, [.ref (x8 + 1), .int p1, .int i9_2, .int i9_3, va_rf o9_4])))) 11 = .inr (.inl (4, [.ref 12, .int (i1_1 + 1), .int i1_2])) := (va_ne (ne_ob g13 g12 (by decide))).trans g13
        have g17 : (va_up (va_up G 11 (.inr (.inl (4, [.ref 12, .int (i1_1 + 1), .int i1_2])))) x8 (.inr (.inl (10, [.ref (x8 + 1), .int p1, .int i9_2, .int i9_3, va_rf o9_4])))) x8 = .inr (.inl (10, [.ref (x8 + 1), .int p1, .int i9_2, .int i9_3, va_rf o9_4])) := up_eq
        refine w_mv (pc1 := 60) (st1 := [.ref x8]) rfl rfl rfl ?_
        refine w_mv (pc1 := 61) (st1 := [.int p2, .ref x8]) rfl rfl rfl ?_
        refine cw_pf (c1 := .inr (.inl (10, [.ref (x8 + 1), .int p1, .int p2, .int i9_3, va_rf o9_4]))) (pc1 := 64) rfl (by omega) (by omega) g17 rfl rfl rfl rfl ?_
        rw [va_uu]
        have g18 : (va_up (va_up G 11 (.inr (.inl (4, [.ref 12, .int (i1_1 + 1), .int i1_2])))) x8 (.inr (.inl (10, [.ref (x8 + 1), .int p1, .int p2, .int i9_3, va_rf o9_4])))) 12 = .inr (.inl (13, [.ref r2_0, .int i2_1, .int i2_2])) := (va_ne (ne_ob g14 g17 (by decide))).trans ((va_ne (ne_ob g14 g17 (by decide))).symm.trans g14)
        have g19 : (va_up (va_up G 11 (.inr (.inl (4, [.ref 12, .int (i1_1 + 1), .int i1_2])))) x8 (.inr (.inl (10, [.ref (x8 + 1), .int p1, .int p2, .int i9_3, va_rf o9_4])))) r2_0 = .inl (4, (n6, .inr (.inr (.inr (.inr f6))))) := (va_ne (ne_ao g15 g17)).trans ((va_ne (ne_ao g15 g17)).symm.trans g15)
        have g20 : (va_up (va_up G 11 (.inr (.inl (4, [.ref 12, .int (i1_1 + 1), .int i1_2])))) x8 (.inr (.inl (10, [.ref (x8 + 1), .int p1, .int p2, .int i9_3, va_rf o9_4])))) 11 = .inr (.inl (4, [.ref 12, .int (i1_1 + 1), .int i1_2])) := (va_ne (ne_ob g16 g17 (by decide))).trans ((va_ne (ne_ob g16 g17 (by decide))).symm.trans g16)
        have g21 : (va_up (va_up G 11 (.inr (.inl (4, [.ref 12, .int (i1_1 + 1), .int i1_2])))) x8 (.inr (.inl (10, [.ref (x8 + 1), .int p1, .int p2, .int i9_3, va_rf o9_4])))) x8 = .inr (.inl (10, [.ref (x8 + 1), .int p1, .int p2, .int i9_3, va_rf o9_4])) := up_eq
        refine w_mv (pc1 := 65) (st1 := [.ref x8]) rfl rfl rfl ?_
        refine w_mv (pc1 := 66) (st1 := [.int 0, .ref x8]) rfl rfl rfl ?_
        refine cw_pf (c1 := .inr (.inl (10, [.ref (x8 + 1), .int p1, .int p2, .int 0, va_rf o9_4]))) (pc1 := 69) rfl (by omega) (by omega) g21 rfl rfl rfl rfl ?_
        rw [va_uu]
        have g22 : (va_up (va_up G 11 (.inr (.inl (4, [.ref 12, .int (i1_1 + 1), .int i1_2])))) x8 (.inr (.inl (10, [.ref (x8 + 1), .int p1, .int p2, .int 0, va_rf o9_4])))) 12 = .inr (.inl (13, [.ref r2_0, .int i2_1, .int i2_2])) := (va_ne (ne_ob g18 g21 (by decide))).trans ((va_ne (ne_ob g18 g21 (by decide))).symm.trans g18)
        have g23 : (va_up (va_up G 11 (.inr (.inl (4, [.ref 12, .int (i1_1 + 1), .int i1_2])))) x8 (.inr (.inl (10, [.ref (x8 + 1), .int p1, .int p2, .int 0, va_rf o9_4])))) r2_0 = .inl (4, (n6, .inr (.inr (.inr (.inr f6))))) := (va_ne (ne_ao g19 g21)).trans ((va_ne (ne_ao g19 g21)).symm.trans g19)
        have g24 : (va_up (va_up G 11 (.inr (.inl (4, [.ref 12, .int (i1_1 + 1), .int i1_2])))) x8 (.inr (.inl (10, [.ref (x8 + 1), .int p1, .int p2, .int 0, va_rf o9_4])))) 11 = .inr (.inl (4, [.ref 12, .int (i1_1 + 1), .int i1_2])) := (va_ne (ne_ob g20 g21 (by decide))).trans ((va_ne (ne_ob g20 g21 (by decide))).symm.trans g20)
        have g25 : (va_up (va_up G 11 (.inr (.inl (4, [.ref 12, .int (i1_1 + 1), .int i1_2])))) x8 (.inr (.inl (10, [.ref (x8 + 1), .int p1, .int p2, .int 0, va_rf o9_4])))) x8 = .inr (.inl (10, [.ref (x8 + 1), .int p1, .int p2, .int 0, va_rf o9_4])) := up_eq
        refine w_mv (pc1 := 70) (st1 := [.ref x8]) rfl rfl rfl ?_
        refine w_mv (pc1 := 71) (st1 := [.null, .ref x8]) rfl rfl rfl ?_
        refine cw_pf (c1 := .inr (.inl (10, [.ref (x8 + 1), .int p1, .int p2, .int 0, .null]))) (pc1 := 74) rfl (by omega) (by omega) g25 rfl rfl rfl rfl ?_
        rw [va_uu]
        have g26 : (va_up (va_up G 11 (.inr (.inl (4, [.ref 12, .int (i1_1 + 1), .int i1_2])))) x8 (.inr (.inl (10, [.ref (x8 + 1), .int p1, .int p2, .int 0, .null])))) 12 = .inr (.inl (13, [.ref r2_0, .int i2_1, .int i2_2])) := (va_ne (ne_ob g22 g25 (by decide))).trans ((va_ne (ne_ob g22 g25 (by decide))).symm.trans g22)
        have g27 : (va_up (va_up G 11 (.inr (.inl (4, [.ref 12, .int (i1_1 + 1), .int i1_2])))) x8 (.inr (.inl (10, [.ref (x8 + 1), .int p1, .int p2, .int 0, .null])))) r2_0 = .inl (4, (n6, .inr (.inr (.inr (.inr f6))))) := (va_ne (ne_ao g23 g25)).trans ((va_ne (ne_ao g23 g25)).symm.trans g23)
        have g28 : (va_up (va_up G 11 (.inr (.inl (4, [.ref 12, .int (i1_1 + 1), .int i1_2])))) x8 (.inr (.inl (10, [.ref (x8 + 1), .int p1, .int p2, .int 0, .null])))) 11 = .inr (.inl (4, [.ref 12, .int (i1_1 + 1), .int i1_2])) := (va_ne (ne_ob g24 g25 (by decide))).trans ((va_ne (ne_ob g24 g25 (by decide))).symm.trans g24)
        have g29 : (va_up (va_up G 11 (.inr (.inl (4, [.ref 12, .int (i1_1 + 1), .int i1_2])))) x8 (.inr (.inl (10, [.ref (x8 + 1), .int p1, .int p2, .int 0, .null])))) x8 = .inr (.inl (10, [.ref (x8 + 1), .int p1, .int p2, .int 0, .null])) := up_eq
        refine w_mv (pc1 := 75) (st1 := [.ref x8]) rfl rfl rfl ?_
        refine sx_wp.stop rfl rfl rfl ?_
        exact c_acc (hP _ _ _ _ _ hh) (by omega) (by omega)
      ·
        replace hh := hh.2 (Int.not_lt.mp h5)
        refine w_ilt_F (pc1 := 9) rfl (by decide) rfl (show i2_1.toInt ≤ i1_1.toInt from (Int.not_lt.mp h5)) ?_
        refine w_mv (pc1 := 10) (st1 := [.null]) rfl rfl rfl ?_
        refine w_mv (pc1 := 11) (st1 := [.int i1_1, .null]) rfl rfl rfl ?_
        refine w_mv (pc1 := 12) (st1 := [.int i2_1, .int i1_1, .null]) rfl rfl rfl ?_
        exact hh.elim
  ·
    replace hh := hh.2 (Int.not_lt.mp h3)
    refine w_ilt_F (pc1 := 14) rfl (by decide) rfl (show i2_1.toInt ≤ i1_1.toInt from (Int.not_lt.mp h3)) ?_
    refine w_mv (pc1 := 15) (st1 := [.ref 11]) rfl rfl rfl ?_
    refine cw_gf (v := .ref 12) (pc1 := 18) rfl (by omega) (by omega) g1 rfl rfl ?_
    obtain ⟨q30a, hh⟩ := hh
    refine cw_new (k := 5) (c1 := .inr (.inl (10, [.null, .int 0, .int 0, .int 0, .null]))) (pc1 := 21) rfl rfl rfl rfl ?_
    have g31 : (va_up G N (.inr (.inl (10, [.null, .int 0, .int 0, .int 0, .null])))) 11 = .inr (.inl (4, [.ref 12, .int i1_1, .int i1_2])) := (va_ne (by omega)).trans g1
    have g32 : (va_up G N (.inr (.inl (10, [.null, .int 0, .int 0, .int 0, .null])))) 12 = .inr (.inl (13, [.ref r2_0, .int i2_1, .int i2_2])) := (va_ne (by omega)).trans g2
    have g33 : (va_up G N (.inr (.inl (10, [.null, .int 0, .int 0, .int 0, .null])))) N = .inr (.inl (10, [.null, .int 0, .int 0, .int 0, .null])) := up_eq
    refine w_mv (pc1 := 22) (st1 := [.ref N, .ref N, .ref 12]) rfl rfl rfl ?_
    refine w_call (M' := sM_60) (vals := [.ref N]) (rest := [.ref N, .ref 12]) (lv' := [(0, .ref N)]) rfl rfl rfl rfl rfl rfl rfl rfl rfl rfl ?_
    refine w_mv (pc1 := 1) (st1 := [.ref N]) rfl rfl rfl ?_
    refine w_obj (pc1 := 4) (st1 := []) rfl rfl rfl ⟨by omega, Nat.le_of_ble_eq_true rfl⟩ rfl ?_
    refine w_mv (pc1 := 5) (st1 := [.ref N]) rfl rfl rfl ?_
    refine w_mv (pc1 := 6) (st1 := [.int 3, .ref N]) rfl rfl rfl ?_
    refine cw_newq (n := 3) (pc1 := 9) rfl rfl (by decide) (by decide) (by decide) ?_
    have g34 : (va_up (va_up G N (.inr (.inl (10, [.null, .int 0, .int 0, .int 0, .null])))) (N + 1) (.inl (6, (3, .inr (.inr (.inr (.inr (fun _ => none)))))))) 11 = .inr (.inl (4, [.ref 12, .int i1_1, .int i1_2])) := (va_ne (by omega)).trans g31
    have g35 : (va_up (va_up G N (.inr (.inl (10, [.null, .int 0, .int 0, .int 0, .null])))) (N + 1) (.inl (6, (3, .inr (.inr (.inr (.inr (fun _ => none)))))))) 12 = .inr (.inl (13, [.ref r2_0, .int i2_1, .int i2_2])) := (va_ne (by omega)).trans g32
    have g36 : (va_up (va_up G N (.inr (.inl (10, [.null, .int 0, .int 0, .int 0, .null])))) (N + 1) (.inl (6, (3, .inr (.inr (.inr (.inr (fun _ => none)))))))) N = .inr (.inl (10, [.null, .int 0, .int 0, .int 0, .null])) := (va_ne (by omega)).trans g33
    have g37 : (va_up (va_up G N (.inr (.inl (10, [.null, .int 0, .int 0, .int 0, .null])))) (N + 1) (.inl (6, (3, .inr (.inr (.inr (.inr (fun _ => none)))))))) (N + 1) = .inl (6, (3, .inr (.inr (.inr (.inr (fun _ => none)))))) := up_eq
    refine cw_pf (c1 := .inr (.inl (10, [.ref (N + 1), .int 0, .int 0, .int 0, .null]))) (pc1 := 12) rfl (by omega) (by omega) g36 rfl rfl rfl rfl ?_
    have g38 : (va_up (va_up (va_up G N (.inr (.inl (10, [.null, .int 0, .int 0, .int 0, .null])))) (N + 1) (.inl (6, (3, .inr (.inr (.inr (.inr (fun _ => none)))))))) N (.inr (.inl (10, [.ref (N + 1), .int 0, .int 0, .int 0, .null])))) 11 = .inr (.inl (4, [.ref 12, .int i1_1, .int i1_2])) := (va_ne (ne_ob g34 g36 (by decide))).trans g34
    have g39 : (va_up (va_up (va_up G N (.inr (.inl (10, [.null, .int 0, .int 0, .int 0, .null])))) (N + 1) (.inl (6, (3, .inr (.inr (.inr (.inr (fun _ => none)))))))) N (.inr (.inl (10, [.ref (N + 1), .int 0, .int 0, .int 0, .null])))) 12 = .inr (.inl (13, [.ref r2_0, .int i2_1, .int i2_2])) := (va_ne (ne_ob g35 g36 (by decide))).trans g35
    have g40 : (va_up (va_up (va_up G N (.inr (.inl (10, [.null, .int 0, .int 0, .int 0, .null])))) (N + 1) (.inl (6, (3, .inr (.inr (.inr (.inr (fun _ => none)))))))) N (.inr (.inl (10, [.ref (N + 1), .int 0, .int 0, .int 0, .null])))) (N + 1) = .inl (6, (3, .inr (.inr (.inr (.inr (fun _ => none)))))) := (va_ne (ne_ao g37 g36)).trans g37
    have g41 : (va_up (va_up (va_up G N (.inr (.inl (10, [.null, .int 0, .int 0, .int 0, .null])))) (N + 1) (.inl (6, (3, .inr (.inr (.inr (.inr (fun _ => none)))))))) N (.inr (.inl (10, [.ref (N + 1), .int 0, .int 0, .int 0, .null])))) N = .inr (.inl (10, [.ref (N + 1), .int 0, .int 0, .int 0, .null])) := up_eq
    refine w_vret (pc1 := 25) rfl rfl rfl ?_
    refine w_call (M' := sM_166) (vals := [.ref 12, .ref N]) (rest := []) (lv' := [(0, .ref 12), (1, .ref N)]) rfl rfl rfl rfl rfl rfl (cH_rcv (by omega) (by omega) g39) rfl rfl rfl ?_
    refine hh _ _ _ _ (fun r42 N42 G42 kc42 ks42 hh => ?_)
    obtain ⟨v42, er42, hh⟩ := hh
    subst er42
    refine w_ki (pc1 := 28) rfl ?_
    refine w_mv (pc1 := 29) (st1 := []) rfl rfl rfl ?_
    refine w_mv (pc1 := 30) (st1 := [.ref 11]) rfl rfl rfl ?_
    obtain ⟨b43b, i43_1, i43_2, g43, hh⟩ := hh
    refine cw_gf (v := .ref 12) (pc1 := 33) rfl (by omega) (by omega) g43 rfl rfl ?_
    refine w_mv (pc1 := 34) (st1 := [.ref 11, .ref 12]) rfl rfl rfl ?_
    refine cw_gf (v := .int i43_1) (pc1 := 37) rfl (by omega) (by omega) g43 rfl rfl ?_
    obtain ⟨b44b, r44_0, i44_1, i44_2, g44, hh⟩ := hh
    refine w_call (M' := sM_179) (vals := [.ref 12, .int i43_1]) (rest := []) (lv' := [(0, .ref 12), (1, .int i43_1)]) rfl rfl rfl rfl rfl rfl (cH_rcv (by omega) (by omega) g44) rfl rfl rfl ?_
    refine w_mv (pc1 := 1) (st1 := [.int i43_1]) rfl rfl rfl ?_
    refine w_mv (pc1 := 2) (st1 := [.ref 12, .int i43_1]) rfl rfl rfl ?_
    refine cw_gf (v := .int i44_1) (pc1 := 5) rfl (by omega) (by omega) g44 rfl rfl ?_
    refine w_call (M' := sM_176) (vals := [.int i43_1, .int i44_1]) (rest := []) (lv' := [(0, .int i43_1), (1, .int i44_1)]) rfl rfl rfl rfl rfl rfl rfl rfl rfl rfl ?_
    refine w_mv (pc1 := 1) (st1 := [.int i43_1]) rfl rfl rfl ?_
    refine w_mv (pc1 := 2) (st1 := [.int i44_1, .int i43_1]) rfl rfl rfl ?_
    refine w_mv (pc1 := 3) (st1 := [.null, .int i44_1, .int i43_1]) rfl rfl rfl ?_
    refine w_call (M' := sM_177) (vals := [.int i43_1, .int i44_1, .null]) (rest := []) (lv' := [(0, .int i43_1), (1, .int i44_1), (2, .null)]) rfl rfl rfl rfl rfl rfl rfl rfl rfl rfl ?_
    refine w_mv (pc1 := 1) (st1 := [.int i43_1]) rfl rfl rfl ?_
    by_cases h45 : i43_1.toInt < 0
    ·
      replace hh := hh.1 h45
      refine w_zlt_T (pc1 := 9) rfl rfl (show i43_1.toInt < 0 from h45) ?_
      refine w_mv (pc1 := 10) (st1 := [.null]) rfl rfl rfl ?_
      refine w_mv (pc1 := 11) (st1 := [.int i43_1, .null]) rfl rfl rfl ?_
      refine w_mv (pc1 := 12) (st1 := [.int i44_1, .int i43_1, .null]) rfl rfl rfl ?_
      exact hh.elim
    ·
      replace hh := hh.2 (Int.not_lt.mp h45)
      refine w_zlt_F (pc1 := 4) rfl (by decide) rfl (show 0 ≤ i43_1.toInt from (Int.not_lt.mp h45)) ?_
      refine w_mv (pc1 := 5) (st1 := [.int i43_1]) rfl rfl rfl ?_
      refine w_mv (pc1 := 6) (st1 := [.int i44_1, .int i43_1]) rfl rfl rfl ?_
      by_cases h46 : i43_1.toInt < i44_1.toInt
      ·
        replace hh := hh.1 h46
        refine w_ilt_T (pc1 := 16) rfl rfl (show i43_1.toInt < i44_1.toInt from h46) ?_
        refine w_mv (pc1 := 17) (st1 := [.int i43_1]) rfl rfl rfl ?_
        refine w_iret (pc1 := 6) rfl rfl rfl rfl ?_
        refine w_iret (pc1 := 8) rfl rfl rfl rfl ?_
        refine w_mv (pc1 := 9) (st1 := []) rfl rfl rfl ?_
        refine w_mv (pc1 := 10) (st1 := [.ref 12]) rfl rfl rfl ?_
        refine w_mv (pc1 := 11) (st1 := [.int i43_1, .ref 12]) rfl rfl rfl ?_
        refine w_call (M' := sM_180) (vals := [.ref 12, .int i43_1]) (rest := []) (lv' := [(0, .ref 12), (1, .int i43_1)]) rfl rfl rfl rfl rfl rfl (cH_rcv (by omega) (by omega) g44) rfl rfl rfl ?_
        refine w_mv (pc1 := 1) (st1 := [.ref 12]) rfl rfl rfl ?_
        refine cw_gf (v := .ref r44_0) (pc1 := 4) rfl (by omega) (by omega) g44 rfl rfl ?_
        refine w_mv (pc1 := 5) (st1 := [.int i43_1, .ref r44_0]) rfl rfl rfl ?_
        obtain ⟨b47b, n47, f47, g47, hh⟩ := hh
        obtain ⟨q48a, q48b, hh⟩ := hh
        refine cw_ald (pc1 := 6) rfl (by omega) g47 rfl q48a q48b rfl ?_
        obtain ⟨x49, e49, hh⟩ := hh
        rw [e49]
        refine w_aret (pc1 := 14) rfl rfl rfl rfl ?_
        refine w_aret (pc1 := 40) rfl rfl rfl rfl ?_
        obtain ⟨b50a, b50b, i50_1, i50_2, i50_3, o50_4, g50, hh⟩ := hh
        refine cw_cast (pc1 := 43) rfl (by omega) (by omega) g50 rfl ?_
        refine w_mv (pc1 := 44) (lv1 := [(3, .ref x49), (0, .ref 11), (1, .int p1), (2, .int p2)]) (st1 := []) rfl rfl rfl ?_
        refine w_mv (pc1 := 45) (st1 := [.ref 11]) rfl rfl rfl ?_
        refine w_mv (pc1 := 46) (st1 := [.ref 11, .ref 11]) rfl rfl rfl ?_
        refine cw_gf (v := .int i43_1) (pc1 := 49) rfl (by omega) (by omega) g43 rfl rfl ?_
        refine w_mv (pc1 := 50) (st1 := [.int 1, .int i43_1, .ref 11]) rfl rfl rfl ?_
        refine w_mv (pc1 := 51) (st1 := [.int (i43_1 + 1), .ref 11]) rfl rfl rfl ?_
        refine cw_pf (c1 := .inr (.inl (4, [.ref 12, .int (i43_1 + 1), .int i43_2]))) (pc1 := 54) rfl (by omega) (by omega) g43 rfl rfl rfl rfl ?_
        have g51 : (va_up G42 11 (.inr (.inl (4, [.ref 12, .int (i43_1 + 1), .int i43_2])))) 12 = .inr (.inl (13, [.ref r44_0, .int i44_1, .int i44_2])) := (va_ne (ne_ob g44 g43 (by decide))).trans g44
        have g52 : (va_up G42 11 (.inr (.inl (4, [.ref 12, .int (i43_1 + 1), .int i43_2])))) r44_0 = .inl (4, (n47, .inr (.inr (.inr (.inr f47))))) := (va_ne (ne_ao g47 g43)).trans g47
        have g53 : (va_up G42 11 (.inr (.inl (4, [.ref 12, .int (i43_1 + 1), .int i43_2])))) x49 = .inr (.inl (10, [.ref (x49 + 1), .int i50_1, .int i50_2, .int i50_3, va_rf o50_4])) := (va_ne (ne_ob g50 g43 (by decide))).trans g50
        have g54 : (va_up G42 11 (.inr (.inl (4, [.ref 12, .int (i43_1 + 1), .int i43_2])))) 11 = .inr (.inl (4, [.ref 12, .int (i43_1 + 1), .int i43_2])) := up_eq
        refine w_mv (pc1 := 55) (st1 := [.ref x49]) rfl rfl rfl ?_
        refine w_mv (pc1 := 56) (st1 := [.int p1, .ref x49]) rfl rfl rfl ?_
        refine cw_pf (c1 := .inr (.inl (10, [.ref (x49 + 1), .int p1, .int i50_2, .int i50_3, va_rf o50_4]))) (pc1 := 59) rfl (by omega) (by omega) g53 rfl rfl rfl rfl ?_
        have g55 : (va_up (va_up G42 11 (.inr (.inl (4, [.ref 12, .int (i43_1 + 1), .int i43_2])))) x49 (.inr (.inl (10, [.ref (x49 + 1), .int p1, .int i50_2, .int i50_3, va_rf o50_4])))) 12 = .inr (.inl (13, [.ref r44_0, .int i44_1, .int i44_2])) := (va_ne (ne_ob g51 g53 (by decide))).trans g51
        have g56 : (va_up (va_up G42 11 (.inr (.inl (4, [.ref 12, .int (i43_1 + 1), .int i43_2])))) x49 (.inr (.inl (10, [.ref (x49 + 1), .int p1, .int i50_2, .int i50_3, va_rf o50_4])))) r44_0 = .inl (4, (n47, .inr (.inr (.inr (.inr f47))))) := (va_ne (ne_ao g52 g53)).trans g52
        have g57 : (va_up (va_up G42 11 (.inr (.inl (4, [.ref 12, .int (i43_1 + 1), .int i43_2])))) x49 (.inr (.inl (10, [.ref (x49 + 1), .int p1, .int i50_2, .int i50_3, va_rf o50_4])))) 11 = .inr (.inl (4, [.ref 12, .int (i43_1 + 1), .int i43_2])) := (va_ne (ne_ob g54 g53 (by decide))).trans g54
        have g58 : (va_up (va_up G42 11 (.inr (.inl (4, [.ref 12, .int (i43_1 + 1), .int i43_2])))) x49 (.inr (.inl (10, [.ref (x49 + 1), .int p1, .int i50_2, .int i50_3, va_rf o50_4])))) x49 = .inr (.inl (10, [.ref (x49 + 1), .int p1, .int i50_2, .int i50_3, va_rf o50_4])) := up_eq
        refine w_mv (pc1 := 60) (st1 := [.ref x49]) rfl rfl rfl ?_
        refine w_mv (pc1 := 61) (st1 := [.int p2, .ref x49]) rfl rfl rfl ?_
        refine cw_pf (c1 := .inr (.inl (10, [.ref (x49 + 1), .int p1, .int p2, .int i50_3, va_rf o50_4]))) (pc1 := 64) rfl (by omega) (by omega) g58 rfl rfl rfl rfl ?_
        rw [va_uu]
        have g59 : (va_up (va_up G42 11 (.inr (.inl (4, [.ref 12, .int (i43_1 + 1), .int i43_2])))) x49 (.inr (.inl (10, [.ref (x49 + 1), .int p1, .int p2, .int i50_3, va_rf o50_4])))) 12 = .inr (.inl (13, [.ref r44_0, .int i44_1, .int i44_2])) := (va_ne (ne_ob g55 g58 (by decide))).trans ((va_ne (ne_ob g55 g58 (by decide))).symm.trans g55)
        have g60 : (va_up (va_up G42 11 (.inr (.inl (4, [.ref 12, .int (i43_1 + 1), .int i43_2])))) x49 (.inr (.inl (10, [.ref (x49 + 1), .int p1, .int p2, .int i50_3, va_rf o50_4])))) r44_0 = .inl (4, (n47, .inr (.inr (.inr (.inr f47))))) := (va_ne (ne_ao g56 g58)).trans ((va_ne (ne_ao g56 g58)).symm.trans g56)
        have g61 : (va_up (va_up G42 11 (.inr (.inl (4, [.ref 12, .int (i43_1 + 1), .int i43_2])))) x49 (.inr (.inl (10, [.ref (x49 + 1), .int p1, .int p2, .int i50_3, va_rf o50_4])))) 11 = .inr (.inl (4, [.ref 12, .int (i43_1 + 1), .int i43_2])) := (va_ne (ne_ob g57 g58 (by decide))).trans ((va_ne (ne_ob g57 g58 (by decide))).symm.trans g57)
        have g62 : (va_up (va_up G42 11 (.inr (.inl (4, [.ref 12, .int (i43_1 + 1), .int i43_2])))) x49 (.inr (.inl (10, [.ref (x49 + 1), .int p1, .int p2, .int i50_3, va_rf o50_4])))) x49 = .inr (.inl (10, [.ref (x49 + 1), .int p1, .int p2, .int i50_3, va_rf o50_4])) := up_eq
        refine w_mv (pc1 := 65) (st1 := [.ref x49]) rfl rfl rfl ?_
        refine w_mv (pc1 := 66) (st1 := [.int 0, .ref x49]) rfl rfl rfl ?_
        refine cw_pf (c1 := .inr (.inl (10, [.ref (x49 + 1), .int p1, .int p2, .int 0, va_rf o50_4]))) (pc1 := 69) rfl (by omega) (by omega) g62 rfl rfl rfl rfl ?_
        rw [va_uu]
        have g63 : (va_up (va_up G42 11 (.inr (.inl (4, [.ref 12, .int (i43_1 + 1), .int i43_2])))) x49 (.inr (.inl (10, [.ref (x49 + 1), .int p1, .int p2, .int 0, va_rf o50_4])))) 12 = .inr (.inl (13, [.ref r44_0, .int i44_1, .int i44_2])) := (va_ne (ne_ob g59 g62 (by decide))).trans ((va_ne (ne_ob g59 g62 (by decide))).symm.trans g59)
        have g64 : (va_up (va_up G42 11 (.inr (.inl (4, [.ref 12, .int (i43_1 + 1), .int i43_2])))) x49 (.inr (.inl (10, [.ref (x49 + 1), .int p1, .int p2, .int 0, va_rf o50_4])))) r44_0 = .inl (4, (n47, .inr (.inr (.inr (.inr f47))))) := (va_ne (ne_ao g60 g62)).trans ((va_ne (ne_ao g60 g62)).symm.trans g60)
        have g65 : (va_up (va_up G42 11 (.inr (.inl (4, [.ref 12, .int (i43_1 + 1), .int i43_2])))) x49 (.inr (.inl (10, [.ref (x49 + 1), .int p1, .int p2, .int 0, va_rf o50_4])))) 11 = .inr (.inl (4, [.ref 12, .int (i43_1 + 1), .int i43_2])) := (va_ne (ne_ob g61 g62 (by decide))).trans ((va_ne (ne_ob g61 g62 (by decide))).symm.trans g61)
        have g66 : (va_up (va_up G42 11 (.inr (.inl (4, [.ref 12, .int (i43_1 + 1), .int i43_2])))) x49 (.inr (.inl (10, [.ref (x49 + 1), .int p1, .int p2, .int 0, va_rf o50_4])))) x49 = .inr (.inl (10, [.ref (x49 + 1), .int p1, .int p2, .int 0, va_rf o50_4])) := up_eq
        refine w_mv (pc1 := 70) (st1 := [.ref x49]) rfl rfl rfl ?_
        refine w_mv (pc1 := 71) (st1 := [.null, .ref x49]) rfl rfl rfl ?_
        refine cw_pf (c1 := .inr (.inl (10, [.ref (x49 + 1), .int p1, .int p2, .int 0, .null]))) (pc1 := 74) rfl (by omega) (by omega) g66 rfl rfl rfl rfl ?_
        rw [va_uu]
        have g67 : (va_up (va_up G42 11 (.inr (.inl (4, [.ref 12, .int (i43_1 + 1), .int i43_2])))) x49 (.inr (.inl (10, [.ref (x49 + 1), .int p1, .int p2, .int 0, .null])))) 12 = .inr (.inl (13, [.ref r44_0, .int i44_1, .int i44_2])) := (va_ne (ne_ob g63 g66 (by decide))).trans ((va_ne (ne_ob g63 g66 (by decide))).symm.trans g63)
        have g68 : (va_up (va_up G42 11 (.inr (.inl (4, [.ref 12, .int (i43_1 + 1), .int i43_2])))) x49 (.inr (.inl (10, [.ref (x49 + 1), .int p1, .int p2, .int 0, .null])))) r44_0 = .inl (4, (n47, .inr (.inr (.inr (.inr f47))))) := (va_ne (ne_ao g64 g66)).trans ((va_ne (ne_ao g64 g66)).symm.trans g64)
        have g69 : (va_up (va_up G42 11 (.inr (.inl (4, [.ref 12, .int (i43_1 + 1), .int i43_2])))) x49 (.inr (.inl (10, [.ref (x49 + 1), .int p1, .int p2, .int 0, .null])))) 11 = .inr (.inl (4, [.ref 12, .int (i43_1 + 1), .int i43_2])) := (va_ne (ne_ob g65 g66 (by decide))).trans ((va_ne (ne_ob g65 g66 (by decide))).symm.trans g65)
        have g70 : (va_up (va_up G42 11 (.inr (.inl (4, [.ref 12, .int (i43_1 + 1), .int i43_2])))) x49 (.inr (.inl (10, [.ref (x49 + 1), .int p1, .int p2, .int 0, .null])))) x49 = .inr (.inl (10, [.ref (x49 + 1), .int p1, .int p2, .int 0, .null])) := up_eq
        refine w_mv (pc1 := 75) (st1 := [.ref x49]) rfl rfl rfl ?_
        refine sx_wp.stop rfl rfl rfl ?_
        exact c_acc (hP _ _ _ _ _ hh) (by omega) (by omega)
      ·
        replace hh := hh.2 (Int.not_lt.mp h46)
        refine w_ilt_F (pc1 := 9) rfl (by decide) rfl (show i44_1.toInt ≤ i43_1.toInt from (Int.not_lt.mp h46)) ?_
        refine w_mv (pc1 := 10) (st1 := [.null]) rfl rfl rfl ?_
        refine w_mv (pc1 := 11) (st1 := [.int i43_1, .null]) rfl rfl rfl ?_
        refine w_mv (pc1 := 12) (st1 := [.int i44_1, .int i43_1, .null]) rfl rfl rfl ?_
        exact hh.elim
set_option maxRecDepth 20000 in
set_option maxHeartbeats 4000000 in
theorem k_67_0 {p1 : Int32} {N : Nat} {G : Nat → sx_C} {K : Option Value ⊕ Nat → Nat → (Nat → sx_C) → Nat → Nat → Prop} (hh : ((p1.toInt < 1 → K (.inr (N)) (N + 1) (va_up G N (.inr (.inr 0))) (1) (6)) ∧ (1 ≤ p1.toInt → ((p1.toInt ≤ 100 → 5 < N ∧ ∃ (i3_1 : Int32), G 5 = .inr (.inl (0, [.ref 6, .int i3_1, .ref 8, .ref 9, .ref 31])) ∧ 9 < N ∧ ∃ (i4_5 : Int32) (i4_6 : Int32) (i4_7 : Int32), G 9 = .inr (.inl (2, [.ref 10, .ref 17, .ref 18, .ref 20, .ref 22, .int i4_5, .int i4_6, .int i4_7])) ∧ ((i4_5.toInt = 1 → cT (84) sM_67 40 [(0, .ref 5), (1, .int p1), (2, .int 0)] [] (N) G (fun r N1 G1 kc1 ks1 => K r N1 G1 (kc1) (ks1))) ∧ (i4_5.toInt ≠ 1 → K (.inr (N)) (N + 1) (va_up G N (.inr (.inr 1))) (1) (6)))) ∧ (100 < p1.toInt → K (.inr (N)) (N + 1) (va_up G N (.inr (.inr 0))) (1) (6)))))) : cT (84) sM_67 0 [(0, .ref 5), (1, .int p1)] [] N G K := by
  intro d dc ds P hP
  refine w_mv (pc1 := 1) (st1 := [.int p1]) rfl rfl rfl ?_
  refine w_mv (pc1 := 2) (st1 := [.int 1, .int p1]) rfl rfl rfl ?_
  by_cases h1 : p1.toInt < 1
  ·
    replace hh := hh.1 h1
    refine w_ilt_T (pc1 := 11) rfl rfl (show p1.toInt < 1 from h1) ?_
    refine cw_thr rfl rfl (by omega) (Nat.le_of_ble_eq_true rfl) ?_
    exact c_acc (hP _ _ _ _ _ hh) (by omega) (by omega)
  ·
    replace hh := hh.2 (Int.not_lt.mp h1)
    refine w_ilt_F (pc1 := 5) rfl (by decide) rfl (show 1 ≤ p1.toInt from (Int.not_lt.mp h1)) ?_
    refine w_mv (pc1 := 6) (st1 := [.int p1]) rfl rfl rfl ?_
    refine w_mv (pc1 := 8) (st1 := [.int 100, .int p1]) rfl rfl rfl ?_
    by_cases h2 : p1.toInt ≤ 100
    ·
      replace hh := hh.1 h2
      refine w_ile_T (pc1 := 19) rfl rfl (show p1.toInt ≤ 100 from h2) ?_
      refine w_mv (pc1 := 20) (st1 := [.ref 5]) rfl rfl rfl ?_
      obtain ⟨b3b, i3_1, g3, hh⟩ := hh
      refine cw_gf (v := .ref 9) (pc1 := 23) rfl (by omega) (by omega) g3 rfl rfl ?_
      obtain ⟨b4b, i4_5, i4_6, i4_7, g4, hh⟩ := hh
      refine w_call (M' := sM_16) (vals := [.ref 9]) (rest := []) (lv' := [(0, .ref 9)]) rfl rfl rfl rfl rfl rfl (cH_rcv (by omega) (by omega) g4) rfl rfl rfl ?_
      refine w_mv (pc1 := 1) (st1 := [.ref 9]) rfl rfl rfl ?_
      refine cw_gf (v := .int i4_5) (pc1 := 4) rfl (by omega) (by omega) g4 rfl rfl ?_
      refine w_iret (pc1 := 26) rfl rfl rfl rfl ?_
      refine w_mv (pc1 := 27) (st1 := [.int 1, .int i4_5]) rfl rfl rfl ?_
      by_cases h5 : i4_5.toInt = 1
      ·
        replace hh := hh.1 h5
        refine w_ieq_T (pc1 := 38) rfl rfl (show i4_5.toInt = 1 from h5) ?_
        refine w_mv (pc1 := 39) (st1 := [.int 0]) rfl rfl rfl ?_
        refine w_mv (pc1 := 40) (lv1 := [(2, .int 0), (0, .ref 5), (1, .int p1)]) (st1 := []) rfl rfl rfl ?_
        refine w_wk (l1 := [(0, .ref 5), (1, .int p1), (2, .int 0)]) rfl ⟨rfl, rfl, rfl, trivial⟩ ?_
        refine hh d _ _ P (fun r N1 G1 kc1 ks1 q => ?_)
        exact c_acc (hP r N1 G1 _ _ q) (by omega) (by omega)
      ·
        replace hh := hh.2 h5
        refine w_ieq_F (pc1 := 30) rfl (by decide) rfl (show i4_5.toInt ≠ 1 from h5) ?_
        refine cw_thr rfl rfl (by omega) (Nat.le_of_ble_eq_true rfl) ?_
        exact c_acc (hP _ _ _ _ _ hh) (by omega) (by omega)
    ·
      replace hh := hh.2 (Int.not_le.mp h2)
      refine w_ile_F (pc1 := 11) rfl (by decide) rfl (show 100 < p1.toInt from (Int.not_le.mp h2)) ?_
      refine cw_thr rfl rfl (by omega) (Nat.le_of_ble_eq_true rfl) ?_
      exact c_acc (hP _ _ _ _ _ hh) (by omega) (by omega)
