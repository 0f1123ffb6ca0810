/-! THE IMAGES of the class and of the JDK methods that it calls (by program: wip/sx/gen_cimg.py) -/
set_option maxRecDepth 20000 in
set_option maxHeartbeats 4000000 in
theorem k_84_0 {y1 : Nat} {y2 : Nat} {N : Nat} {G : Nat → sx_C} {K : Option Value ⊕ Nat → Nat → (Nat → sx_C) → Nat → Nat → Prop} (hh : 5 ≤ y1 ∧ y1 < N ∧ ∃ (i1_1 : Int32) (i1_2 : Int32) (i1_3 : Int32) (o1_4 : Option Nat), G y1 = .inr (.inl (10, [.ref (y1 + 1), .int i1_1, .int i1_2, .int i1_3, va_rf o1_4])) ∧ cT (1) sM_74 0 [(0, .ref y1)] [] (N) G (fun r2 N2 G2 kc2 ks2 => N = N2 ∧ G = G2 ∧ 0 = kc2 ∧ 0 = ks2 ∧ ∃ o2 : Option Nat, r2 = .inl (some (va_rf o2)) ∧ 5 ≤ y2 ∧ y2 < N ∧ ∃ (i3_1 : Int32) (i3_2 : Int32) (i3_3 : Int32) (o3_4 : Option Nat), G y2 = .inr (.inl (10, [.ref (y2 + 1), .int i3_1, .int i3_2, .int i3_3, va_rf o3_4])) ∧ cT (1) sM_74 0 [(0, .ref y2)] [] (N) G (fun r4 N4 G4 kc4 ks4 => N = N4 ∧ G = G4 ∧ 0 = kc4 ∧ 0 = ks4 ∧ ∃ o4 : Option Nat, r4 = .inl (some (va_rf o4)) ∧ ((o2 = none → False) ∧ (∀ x5, o2 = some x5 → 5 ≤ x5 ∧ x5 < N ∧ ∃ (i6_1 : Int32) (i6_2 : Int32) (i6_3 : Int32) (o6_4 : Option Nat), G x5 = .inr (.inl (10, [.ref (x5 + 1), .int i6_1, .int i6_2, .int i6_3, va_rf o6_4])) ∧ ((i6_1.toInt = 0 → ((i6_1.toInt ≠ 0 → ((o4 = none → 10 < N ∧ ∃ (i15_3 : Int32) (o15_4 : Option Nat), G 10 = .inr (.inl (3, [.ref 11, .ref 13, .ref 16, .int i15_3, va_rf o15_4])) ∧ K (.inl (some (.int 2))) (N) (va_up G 10 (.inr (.inl (3, [.ref 11, .ref 13, .ref 16, .int i15_3, .null])))) (0) (0)) ∧ (∀ x14, o4 = some x14 → 10 < N ∧ ∃ (i20_3 : Int32) (o20_4 : Option Nat), G 10 = .inr (.inl (3, [.ref 11, .ref 13, .ref 16, .int i20_3, va_rf o20_4])) ∧ K (.inl (some (.int 2))) (N) (va_up G 10 (.inr (.inl (3, [.ref 11, .ref 13, .ref 16, .int i20_3, .ref x14])))) (0) (0)))) ∧ (i6_1.toInt = 0 → 10 < N ∧ ∃ (i9_3 : Int32) (o9_4 : Option Nat), G 10 = .inr (.inl (3, [.ref 11, .ref 13, .ref 16, .int i9_3, va_rf o9_4])) ∧ K (.inl (some (.int 2))) (N) (va_up G 10 (.inr (.inl (3, [.ref 11, .ref 13, .ref 16, .int i9_3, .ref x5])))) (0) (0)))) ∧ (i6_1.toInt ≠ 0 → ((o4 = none → False) ∧ (∀ x25, o4 = some x25 → 5 ≤ x25 ∧ x25 < N ∧ ∃ (i26_1 : Int32) (i26_2 : Int32) (i26_3 : Int32) (o26_4 : Option Nat), G x25 = .inr (.inl (10, [.ref (x25 + 1), .int i26_1, .int i26_2, .int i26_3, va_rf o26_4])) ∧ ((i26_1.toInt ≠ 0 → ((i6_1.toInt ≠ 1 → K (.inl (some (.int 1))) (N) G (0) (0)) ∧ (i6_1.toInt = 1 → ((i26_1.toInt ≠ 1 → K (.inl (some (.int 1))) (N) G (0) (0)) ∧ (i26_1.toInt = 1 → ((i26_2.toInt ≤ i6_2.toInt → K (.inl (some (.int 1))) (N) G (0) (0)) ∧ (i6_2.toInt < i26_2.toInt → K (.inl (some (.int 0))) (N) G (0) (0)))))))) ∧ (i26_1.toInt = 0 → ((i6_1.toInt ≠ 0 → 10 < N ∧ ∃ (i35_3 : Int32) (o35_4 : Option Nat), G 10 = .inr (.inl (3, [.ref 11, .ref 13, .ref 16, .int i35_3, va_rf o35_4])) ∧ K (.inl (some (.int 2))) (N) (va_up G 10 (.inr (.inl (3, [.ref 11, .ref 13, .ref 16, .int i35_3, .ref x25])))) (0) (0)) ∧ (i6_1.toInt = 0 → 10 < N ∧ ∃ (i29_3 : Int32) (o29_4 : Option Nat), G 10 = .inr (.inl (3, [.ref 11, .ref 13, .ref 16, .int i29_3, va_rf o29_4])) ∧ K (.inl (some (.int 2))) (N) (va_up G 10 (.inr (.inl (3, [.ref 11, .ref 13, .ref 16, .int i29_3, .ref x5])))) (0) (0)))))))))))))) : cT (2) sM_84 0 [(0, .ref 10), (1, .ref y1), (2, .ref y2)] [] N G K := by
  intro d dc ds P hP
  refine w_mv (pc1 := 1) (st1 := [.ref y1]) rfl rfl rfl ?_
  obtain ⟨b1a, b1b, i1_1, i1_2, i1_3, o1_4, g1, hh⟩ := hh
  refine w_call (M' := sM_74) (vals := [.ref y1]) (rest := []) (lv' := [(0, .ref y1)]) rfl rfl rfl rfl rfl rfl (cH_rcv (by omega) (by omega) g1) rfl rfl rfl ?_
  refine hh _ _ _ _ (fun r2 N2 G2 kc2 ks2 hh => ?_)
  obtain ⟨eN2, eG2, ek2, es2, hh⟩ := hh
  subst eN2
  subst eG2
  subst ek2
  subst es2
  obtain ⟨o2, er2, hh⟩ := hh
  subst er2
  refine w_kr (pc1 := 4) rfl ?_
  refine w_mv (pc1 := 5) (lv1 := [(3, va_rf o2), (0, .ref 10), (1, .ref y1), (2, .ref y2)]) (st1 := []) rfl rfl (by cases o2 <;> rfl) ?_
  refine w_mv (pc1 := 6) (st1 := [.ref y2]) rfl rfl rfl ?_
  obtain ⟨b3a, b3b, i3_1, i3_2, i3_3, o3_4, g3, hh⟩ := hh
  refine w_call (M' := sM_74) (vals := [.ref y2]) (rest := []) (lv' := [(0, .ref y2)]) rfl rfl rfl rfl rfl rfl (cH_rcv (by omega) (by omega) g3) rfl rfl rfl ?_
  refine hh _ _ _ _ (fun r4 N4 G4 kc4 ks4 hh => ?_)
  obtain ⟨eN4, eG4, ek4, es4, hh⟩ := hh
  subst eN4
  subst eG4
  subst ek4
  subst es4
  obtain ⟨o4, er4, hh⟩ := hh
  subst er4
  refine w_kr (pc1 := 9) rfl ?_
  refine w_mv (pc1 := 11) (lv1 := [(4, va_rf o4), (3, va_rf o2), (0, .ref 10), (1, .ref y1), (2, .ref y2)]) (st1 := []) rfl rfl (by cases o4 <;> cases o2 <;> rfl) ?_
  refine w_mv (pc1 := 12) (lv1 := [(4, va_rf o4), (3, va_rf o2), (0, .ref 10), (1, .ref y1), (2, .ref y2)]) (st1 := [va_rf o2]) rfl rfl (by cases o2 <;> rfl) ?_
  cases o2 with
  | none =>
    replace hh := hh.1 rfl
    exact hh.elim
  | some x5 =>
    replace hh := hh.2 x5 rfl
    obtain ⟨b6a, b6b, i6_1, i6_2, i6_3, o6_4, g6, hh⟩ := hh
    refine cw_gf (v := .int i6_1) (pc1 := 15) rfl (by omega) (by omega) g6 rfl rfl ?_
    by_cases h7 : i6_1.toInt = 0
    ·
      replace hh := hh.1 h7
      refine w_zeq_T (pc1 := 26) rfl rfl (show i6_1.toInt = 0 from h7) ?_
      refine w_mv (pc1 := 27) (st1 := [.ref 10]) rfl rfl rfl ?_
      refine w_mv (pc1 := 28) (st1 := [.ref x5, .ref 10]) rfl rfl rfl ?_
      refine cw_gf (v := .int i6_1) (pc1 := 31) rfl (by omega) (by omega) g6 rfl rfl ?_
      by_cases h8 : i6_1.toInt = 0
      ·
        replace hh := hh.2 h8
        refine w_zne_F (pc1 := 34) rfl (by decide) rfl (show i6_1.toInt = 0 from h8) ?_
        refine w_mv (pc1 := 35) (st1 := [.ref x5, .ref 10]) rfl rfl rfl ?_
        refine w_mv (pc1 := 40) (st1 := [.ref x5, .ref 10]) rfl rfl rfl ?_
        obtain ⟨b9b, i9_3, o9_4, g9, hh⟩ := hh
        refine w_call (M' := sM_81) (vals := [.ref 10, .ref x5]) (rest := []) (lv' := [(0, .ref 10), (1, .ref x5)]) rfl rfl rfl rfl rfl rfl (cH_rcv (by omega) (by omega) g9) rfl rfl rfl ?_
        refine w_mv (pc1 := 1) (st1 := [.ref 10]) rfl rfl rfl ?_
        refine w_mv (pc1 := 2) (st1 := [.ref x5, .ref 10]) rfl rfl rfl ?_
        refine cw_pf (c1 := .inr (.inl (3, [.ref 11, .ref 13, .ref 16, .int i9_3, .ref x5]))) (pc1 := 5) rfl (by omega) (by omega) g9 rfl rfl rfl rfl ?_
        have g10 : (va_up G 10 (.inr (.inl (3, [.ref 11, .ref 13, .ref 16, .int i9_3, .ref x5])))) y1 = .inr (.inl (10, [.ref (y1 + 1), .int i1_1, .int i1_2, .int i1_3, va_rf o1_4])) := (va_ne (ne_ob g1 g9 (by decide))).trans g1
        have g11 : (va_up G 10 (.inr (.inl (3, [.ref 11, .ref 13, .ref 16, .int i9_3, .ref x5])))) y2 = .inr (.inl (10, [.ref (y2 + 1), .int i3_1, .int i3_2, .int i3_3, va_rf o3_4])) := (va_ne (ne_ob g3 g9 (by decide))).trans g3
        have g12 : (va_up G 10 (.inr (.inl (3, [.ref 11, .ref 13, .ref 16, .int i9_3, .ref x5])))) x5 = .inr (.inl (10, [.ref (x5 + 1), .int i6_1, .int i6_2, .int i6_3, va_rf o6_4])) := (va_ne (ne_ob g6 g9 (by decide))).trans g6
        have g13 : (va_up G 10 (.inr (.inl (3, [.ref 11, .ref 13, .ref 16, .int i9_3, .ref x5])))) 10 = .inr (.inl (3, [.ref 11, .ref 13, .ref 16, .int i9_3, .ref x5])) := up_eq
        refine w_mv (pc1 := 6) (st1 := [.int 2]) rfl rfl rfl ?_
        refine w_iret (pc1 := 43) rfl rfl rfl rfl ?_
        refine sx_wp.stop rfl rfl rfl ?_
        exact c_acc (hP _ _ _ _ _ hh) (by omega) (by omega)
      ·
        replace hh := hh.1 h8
        refine w_zne_T (pc1 := 38) rfl rfl (show i6_1.toInt ≠ 0 from h8) ?_
        refine w_mv (pc1 := 40) (lv1 := [(4, va_rf o4), (3, .ref x5), (0, .ref 10), (1, .ref y1), (2, .ref y2)]) (st1 := [va_rf o4, .ref 10]) rfl rfl (by cases o4 <;> rfl) ?_
        cases o4 with
        | none =>
          replace hh := hh.1 rfl
          obtain ⟨b15b, i15_3, o15_4, g15, hh⟩ := hh
          refine w_call (M' := sM_81) (vals := [.ref 10, .null]) (rest := []) (lv' := [(0, .ref 10), (1, .null)]) rfl rfl rfl rfl rfl rfl (cH_rcv (by omega) (by omega) g15) rfl rfl rfl ?_
          refine w_mv (pc1 := 1) (st1 := [.ref 10]) rfl rfl rfl ?_
          refine w_mv (pc1 := 2) (st1 := [.null, .ref 10]) rfl rfl rfl ?_
          refine cw_pf (c1 := .inr (.inl (3, [.ref 11, .ref 13, .ref 16, .int i15_3, .null]))) (pc1 := 5) rfl (by omega) (by omega) g15 rfl rfl rfl rfl ?_
          have g16 : (va_up G 10 (.inr (.inl (3, [.ref 11, .ref 13, .ref 16, .int i15_3, .null])))) y1 = .inr (.inl (10, [.ref (y1 + 1), .int i1_1, .int i1_2, .int i1_3, va_rf o1_4])) := (va_ne (ne_ob g1 g15 (by decide))).trans g1
          have g17 : (va_up G 10 (.inr (.inl (3, [.ref 11, .ref 13, .ref 16, .int i15_3, .null])))) y2 = .inr (.inl (10, [.ref (y2 + 1), .int i3_1, .int i3_2, .int i3_3, va_rf o3_4])) := (va_ne (ne_ob g3 g15 (by decide))).trans g3
          have g18 : (va_up G 10 (.inr (.inl (3, [.ref 11, .ref 13, .ref 16, .int i15_3, .null])))) x5 = .inr (.inl (10, [.ref (x5 + 1), .int i6_1, .int i6_2, .int i6_3, va_rf o6_4])) := (va_ne (ne_ob g6 g15 (by decide))).trans g6
          have g19 : (va_up G 10 (.inr (.inl (3, [.ref 11, .ref 13, .ref 16, .int i15_3, .null])))) 10 = .inr (.inl (3, [.ref 11, .ref 13, .ref 16, .int i15_3, .null])) := up_eq
          refine w_mv (pc1 := 6) (st1 := [.int 2]) rfl rfl rfl ?_
          refine w_iret (pc1 := 43) rfl rfl rfl rfl ?_
          refine sx_wp.stop rfl rfl rfl ?_
          exact c_acc (hP _ _ _ _ _ hh) (by omega) (by omega)
        | some x14 =>
          replace hh := hh.2 x14 rfl
          obtain ⟨b20b, i20_3, o20_4, g20, hh⟩ := hh
          refine w_call (M' := sM_81) (vals := [.ref 10, .ref x14]) (rest := []) (lv' := [(0, .ref 10), (1, .ref x14)]) rfl rfl rfl rfl rfl rfl (cH_rcv (by omega) (by omega) g20) rfl rfl rfl ?_
          refine w_mv (pc1 := 1) (st1 := [.ref 10]) rfl rfl rfl ?_
          refine w_mv (pc1 := 2) (st1 := [.ref x14, .ref 10]) rfl rfl rfl ?_
          refine cw_pf (c1 := .inr (.inl (3, [.ref 11, .ref 13, .ref 16, .int i20_3, .ref x14]))) (pc1 := 5) rfl (by omega) (by omega) g20 rfl rfl rfl rfl ?_
          have g21 : (va_up G 10 (.inr (.inl (3, [.ref 11, .ref 13, .ref 16, .int i20_3, .ref x14])))) y1 = .inr (.inl (10, [.ref (y1 + 1), .int i1_1, .int i1_2, .int i1_3, va_rf o1_4])) := (va_ne (ne_ob g1 g20 (by decide))).trans g1
          have g22 : (va_up G 10 (.inr (.inl (3, [.ref 11, .ref 13, .ref 16, .int i20_3, .ref x14])))) y2 = .inr (.inl (10, [.ref (y2 + 1), .int i3_1, .int i3_2, .int i3_3, va_rf o3_4])) := (va_ne (ne_ob g3 g20 (by decide))).trans g3
          have g23 : (va_up G 10 (.inr (.inl (3, [.ref 11, .ref 13, .ref 16, .int i20_3, .ref x14])))) x5 = .inr (.inl (10, [.ref (x5 + 1), .int i6_1, .int i6_2, .int i6_3, va_rf o6_4])) := (va_ne (ne_ob g6 g20 (by decide))).trans g6
          have g24 : (va_up G 10 (.inr (.inl (3, [.ref 11, .ref 13, .ref 16, .int i20_3, .ref x14])))) 10 = .inr (.inl (3, [.ref 11, .ref 13, .ref 16, .int i20_3, .ref x14])) := up_eq
          refine w_mv (pc1 := 6) (st1 := [.int 2]) rfl rfl rfl ?_
          refine w_iret (pc1 := 43) rfl rfl rfl rfl ?_
          refine sx_wp.stop rfl rfl rfl ?_
          exact c_acc (hP _ _ _ _ _ hh) (by omega) (by omega)
    ·
      replace hh := hh.2 h7
      refine w_zeq_F (pc1 := 18) rfl (by decide) rfl (show i6_1.toInt ≠ 0 from h7) ?_
      refine w_mv (pc1 := 20) (lv1 := [(4, va_rf o4), (3, .ref x5), (0, .ref 10), (1, .ref y1), (2, .ref y2)]) (st1 := [va_rf o4]) rfl rfl (by cases o4 <;> rfl) ?_
      cases o4 with
      | none =>
        replace hh := hh.1 rfl
        exact hh.elim
      | some x25 =>
        replace hh := hh.2 x25 rfl
        obtain ⟨b26a, b26b, i26_1, i26_2, i26_3, o26_4, g26, hh⟩ := hh
        refine cw_gf (v := .int i26_1) (pc1 := 23) rfl (by omega) (by omega) g26 rfl rfl ?_
        by_cases h27 : i26_1.toInt = 0
        ·
          replace hh := hh.2 h27
          refine w_zne_F (pc1 := 26) rfl (by decide) rfl (show i26_1.toInt = 0 from h27) ?_
          refine w_mv (pc1 := 27) (st1 := [.ref 10]) rfl rfl rfl ?_
          refine w_mv (pc1 := 28) (st1 := [.ref x5, .ref 10]) rfl rfl rfl ?_
          refine cw_gf (v := .int i6_1) (pc1 := 31) rfl (by omega) (by omega) g6 rfl rfl ?_
          by_cases h28 : i6_1.toInt = 0
          ·
            replace hh := hh.2 h28
            refine w_zne_F (pc1 := 34) rfl (by decide) rfl (show i6_1.toInt = 0 from h28) ?_
            refine w_mv (pc1 := 35) (st1 := [.ref x5, .ref 10]) rfl rfl rfl ?_
            refine w_mv (pc1 := 40) (st1 := [.ref x5, .ref 10]) rfl rfl rfl ?_
            obtain ⟨b29b, i29_3, o29_4, g29, hh⟩ := hh
            refine w_call (M' := sM_81) (vals := [.ref 10, .ref x5]) (rest := []) (lv' := [(0, .ref 10), (1, .ref x5)]) rfl rfl rfl rfl rfl rfl (cH_rcv (by omega) (by omega) g29) rfl rfl rfl ?_
            refine w_mv (pc1 := 1) (st1 := [.ref 10]) rfl rfl rfl ?_
            refine w_mv (pc1 := 2) (st1 := [.ref x5, .ref 10]) rfl rfl rfl ?_
            refine cw_pf (c1 := .inr (.inl (3, [.ref 11, .ref 13, .ref 16, .int i29_3, .ref x5]))) (pc1 := 5) rfl (by omega) (by omega) g29 rfl rfl rfl rfl ?_
            have g30 : (va_up G 10 (.inr (.inl (3, [.ref 11, .ref 13, .ref 16, .int i29_3, .ref x5])))) y1 = .inr (.inl (10, [.ref (y1 + 1), .int i1_1, .int i1_2, .int i1_3, va_rf o1_4])) := (va_ne (ne_ob g1 g29 (by decide))).trans g1
            have g31 : (va_up G 10 (.inr (.inl (3, [.ref 11, .ref 13, .ref 16, .int i29_3, .ref x5])))) y2 = .inr (.inl (10, [.ref (y2 + 1), .int i3_1, .int i3_2, .int i3_3, va_rf o3_4])) := (va_ne (ne_ob g3 g29 (by decide))).trans g3
            have g32 : (va_up G 10 (.inr (.inl (3, [.ref 11, .ref 13, .ref 16, .int i29_3, .ref x5])))) x5 = .inr (.inl (10, [.ref (x5 + 1), .int i6_1, .int i6_2, .int i6_3, va_rf o6_4])) := (va_ne (ne_ob g6 g29 (by decide))).trans g6
            have g33 : (va_up G 10 (.inr (.inl (3, [.ref 11, .ref 13, .ref 16, .int i29_3, .ref x5])))) x25 = .inr (.inl (10, [.ref (x25 + 1), .int i26_1, .int i26_2, .int i26_3, va_rf o26_4])) := (va_ne (ne_ob g26 g29 (by decide))).trans g26
            have g34 : (va_up G 10 (.inr (.inl (3, [.ref 11, .ref 13, .ref 16, .int i29_3, .ref x5])))) 10 = .inr (.inl (3, [.ref 11, .ref 13, .ref 16, .int i29_3, .ref x5])) := up_eq
            refine w_mv (pc1 := 6) (st1 := [.int 2]) rfl rfl rfl ?_
            refine w_iret (pc1 := 43) rfl rfl rfl rfl ?_
            refine sx_wp.stop rfl rfl rfl ?_
            exact c_acc (hP _ _ _ _ _ hh) (by omega) (by omega)
          ·
            replace hh := hh.1 h28
            refine w_zne_T (pc1 := 38) rfl rfl (show i6_1.toInt ≠ 0 from h28) ?_
            refine w_mv (pc1 := 40) (st1 := [.ref x25, .ref 10]) rfl rfl rfl ?_
            obtain ⟨b35b, i35_3, o35_4, g35, hh⟩ := hh
            refine w_call (M' := sM_81) (vals := [.ref 10, .ref x25]) (rest := []) (lv' := [(0, .ref 10), (1, .ref x25)]) rfl rfl rfl rfl rfl rfl (cH_rcv (by omega) (by omega) g35) rfl rfl rfl ?_
            refine w_mv (pc1 := 1) (st1 := [.ref 10]) rfl rfl rfl ?_
            refine w_mv (pc1 := 2) (st1 := [.ref x25, .ref 10]) rfl rfl rfl ?_
            refine cw_pf (c1 := .inr (.inl (3, [.ref 11, .ref 13, .ref 16, .int i35_3, .ref x25]))) (pc1 := 5) rfl (by omega) (by omega) g35 rfl rfl rfl rfl ?_
            have g36 : (va_up G 10 (.inr (.inl (3, [.ref 11, .ref 13, .ref 16, .int i35_3, .ref x25])))) y1 = .inr (.inl (10, [.ref (y1 + 1), .int i1_1, .int i1_2, .int i1_3, va_rf o1_4])) := (va_ne (ne_ob g1 g35 (by decide))).trans g1
            have g37 : (va_up G 10 (.inr (.inl (3, [.ref 11, .ref 13, .ref 16, .int i35_3, .ref x25])))) y2 = .inr (.inl (10, [.ref (y2 + 1), .int i3_1, .int i3_2, .int i3_3, va_rf o3_4])) := (va_ne (ne_ob g3 g35 (by decide))).trans g3
            have g38 : (va_up G 10 (.inr (.inl (3, [.ref 11, .ref 13, .ref 16, .int i35_3, .ref x25])))) x5 = .inr (.inl (10, [.ref (x5 + 1), .int i6_1, .int i6_2, .int i6_3, va_rf o6_4])) := (va_ne (ne_ob g6 g35 (by decide))).trans g6
            have g39 : (va_up G 10 (.inr (.inl (3, [.ref 11, .ref 13, .ref 16, .int i35_3, .ref x25])))) x25 = .inr (.inl (10, [.ref (x25 + 1), .int i26_1, .int i26_2, .int i26_3, va_rf o26_4])) := (va_ne (ne_ob g26 g35 (by decide))).trans g26
            have g40 : (va_up G 10 (.inr (.inl (3, [.ref 11, .ref 13, .ref 16, .int i35_3, .ref x25])))) 10 = .inr (.inl (3, [.ref 11, .ref 13, .ref 16, .int i35_3, .ref x25])) := up_eq
            refine w_mv (pc1 := 6) (st1 := [.int 2]) rfl rfl rfl ?_
            refine w_iret (pc1 := 43) rfl rfl rfl rfl ?_
            refine sx_wp.stop rfl rfl rfl ?_
            exact c_acc (hP _ _ _ _ _ hh) (by omega) (by omega)
        ·
          replace hh := hh.1 h27
          refine w_zne_T (pc1 := 44) rfl rfl (show i26_1.toInt ≠ 0 from h27) ?_
          refine w_mv (pc1 := 45) (st1 := [.ref x5]) rfl rfl rfl ?_
          refine cw_gf (v := .int i6_1) (pc1 := 48) rfl (by omega) (by omega) g6 rfl rfl ?_
          refine w_mv (pc1 := 49) (st1 := [.int 1, .int i6_1]) rfl rfl rfl ?_
          by_cases h41 : i6_1.toInt = 1
          ·
            replace hh := hh.2 h41
            refine w_ine_F (pc1 := 52) rfl (by decide) rfl (show i6_1.toInt = 1 from h41) ?_
            refine w_mv (pc1 := 54) (st1 := [.ref x25]) rfl rfl rfl ?_
            refine cw_gf (v := .int i26_1) (pc1 := 57) rfl (by omega) (by omega) g26 rfl rfl ?_
            refine w_mv (pc1 := 58) (st1 := [.int 1, .int i26_1]) rfl rfl rfl ?_
            by_cases h42 : i26_1.toInt = 1
            ·
              replace hh := hh.2 h42
              refine w_ine_F (pc1 := 61) rfl (by decide) rfl (show i26_1.toInt = 1 from h42) ?_
              refine w_mv (pc1 := 62) (st1 := [.int 1]) rfl rfl rfl ?_
              refine w_mv (pc1 := 66) (st1 := [.int 1]) rfl rfl rfl ?_
              refine w_mv (pc1 := 68) (lv1 := [(5, .int 1), (4, .ref x25), (3, .ref x5), (0, .ref 10), (1, .ref y1), (2, .ref y2)]) (st1 := []) rfl rfl rfl ?_
              refine w_mv (pc1 := 70) (st1 := [.int 1]) rfl rfl rfl ?_
              refine w_mv (pc1 := 73) (st1 := []) rfl rfl rfl ?_
              refine w_mv (pc1 := 74) (st1 := [.ref x5]) rfl rfl rfl ?_
              refine cw_gf (v := .int i6_2) (pc1 := 77) rfl (by omega) (by omega) g6 rfl rfl ?_
              refine w_mv (pc1 := 79) (st1 := [.ref x25, .int i6_2]) rfl rfl rfl ?_
              refine cw_gf (v := .int i26_2) (pc1 := 82) rfl (by omega) (by omega) g26 rfl rfl ?_
              by_cases h43 : i26_2.toInt ≤ i6_2.toInt
              ·
                replace hh := hh.1 h43
                refine w_ige_T (pc1 := 89) rfl rfl (show i26_2.toInt ≤ i6_2.toInt from h43) ?_
                refine w_mv (pc1 := 90) (st1 := [.int 1]) rfl rfl rfl ?_
                refine sx_wp.stop rfl rfl rfl ?_
                exact c_acc (hP _ _ _ _ _ hh) (by omega) (by omega)
              ·
                replace hh := hh.2 (Int.not_le.mp h43)
                refine w_ige_F (pc1 := 85) rfl (by decide) rfl (show i6_2.toInt < i26_2.toInt from (Int.not_le.mp h43)) ?_
                refine w_mv (pc1 := 86) (st1 := [.int 0]) rfl rfl rfl ?_
                refine w_mv (pc1 := 90) (st1 := [.int 0]) rfl rfl rfl ?_
                refine sx_wp.stop rfl rfl rfl ?_
                exact c_acc (hP _ _ _ _ _ hh) (by omega) (by omega)
            ·
              replace hh := hh.1 h42
              refine w_ine_T (pc1 := 65) rfl rfl (show i26_1.toInt ≠ 1 from h42) ?_
              refine w_mv (pc1 := 66) (st1 := [.int 0]) rfl rfl rfl ?_
              refine w_mv (pc1 := 68) (lv1 := [(5, .int 0), (4, .ref x25), (3, .ref x5), (0, .ref 10), (1, .ref y1), (2, .ref y2)]) (st1 := []) rfl rfl rfl ?_
              refine w_mv (pc1 := 70) (st1 := [.int 0]) rfl rfl rfl ?_
              refine w_mv (pc1 := 89) (st1 := []) rfl rfl rfl ?_
              refine w_mv (pc1 := 90) (st1 := [.int 1]) rfl rfl rfl ?_
              refine sx_wp.stop rfl rfl rfl ?_
              exact c_acc (hP _ _ _ _ _ hh) (by omega) (by omega)
          ·
            replace hh := hh.1 h41
            refine w_ine_T (pc1 := 65) rfl rfl (show i6_1.toInt ≠ 1 from h41) ?_
            refine w_mv (pc1 := 66) (st1 := [.int 0]) rfl rfl rfl ?_
            refine w_mv (pc1 := 68) (lv1 := [(5, .int 0), (4, .ref x25), (3, .ref x5), (0, .ref 10), (1, .ref y1), (2, .ref y2)]) (st1 := []) rfl rfl rfl ?_
            refine w_mv (pc1 := 70) (st1 := [.int 0]) rfl rfl rfl ?_
            refine w_mv (pc1 := 89) (st1 := []) rfl rfl rfl ?_
            refine w_mv (pc1 := 90) (st1 := [.int 1]) rfl rfl rfl ?_
            refine sx_wp.stop rfl rfl rfl ?_
            exact c_acc (hP _ _ _ _ _ hh) (by omega) (by omega)
set_option maxRecDepth 20000 in
set_option maxHeartbeats 4000000 in
theorem k_87_0 {y1 : Nat} {p2 : Int32} {N : Nat} {G : Nat → sx_C} {K : Option Value ⊕ Nat → Nat → (Nat → sx_C) → Nat → Nat → Prop} (hh : cT (62) sM_87 5 [(0, .ref 9), (1, .ref y1), (2, .int p2), (3, .int 0), (4, .int 0)] [] (N) G (fun r N1 G1 kc1 ks1 => K r N1 G1 (kc1) (ks1))) : cT (62) sM_87 0 [(0, .ref 9), (1, .ref y1), (2, .int p2)] [] N G K := by
  intro d dc ds P hP
  refine w_mv (pc1 := 1) (st1 := [.int 0]) rfl rfl rfl ?_
  refine w_mv (pc1 := 2) (lv1 := [(3, .int 0), (0, .ref 9), (1, .ref y1), (2, .int p2)]) (st1 := []) rfl rfl rfl ?_
  refine w_mv (pc1 := 3) (st1 := [.int 0]) rfl rfl rfl ?_
  refine w_mv (pc1 := 5) (lv1 := [(4, .int 0), (3, .int 0), (0, .ref 9), (1, .ref y1), (2, .int p2)]) (st1 := []) rfl rfl rfl ?_
  refine w_wk (l1 := [(0, .ref 9), (1, .ref y1), (2, .int p2), (3, .int 0), (4, .int 0)]) rfl ⟨rfl, rfl, rfl, rfl, rfl, trivial⟩ ?_
  refine hh d _ _ P (fun r N1 G1 kc1 ks1 q => ?_)
  exact c_acc (hP r N1 G1 _ _ q) (by omega) (by omega)
set_option maxRecDepth 20000 in
set_option maxHeartbeats 4000000 in
theorem k_87_5 {y1 : Nat} {p2 : Int32} {p3 : Int32} {p4 : Int32} {N : Nat} {G : Nat → sx_C} {K : Option Value ⊕ Nat → Nat → (Nat → sx_C) → Nat → Nat → Prop} (hh : 5 ≤ y1 ∧ y1 < N ∧ ∃ (r1_0 : Nat) (i1_1 : Int32) (i1_2 : Int32), G y1 = .inr (.inl (13, [.ref r1_0, .int i1_1, .int i1_2])) ∧ ((i1_1.toInt ≤ p4.toInt → K (.inl (some (.int p3))) (N) G (0) (0)) ∧ (p4.toInt < i1_1.toInt → ((p3.toInt ≠ 0 → K (.inl (some (.int p3))) (N) G (0) (0)) ∧ (p3.toInt = 0 → ((p4.toInt < 0 → False) ∧ (0 ≤ p4.toInt → ((p4.toInt < i1_1.toInt → r1_0 < N ∧ ∃ (n6 : Nat) (f6 : Nat → Option Nat), G r1_0 = .inl (4, (n6, .inr (.inr (.inr (.inr f6))))) ∧ 0 ≤ p4.toInt ∧ p4.toInt < (n6 : Nat) ∧ ∃ x8, f6 p4.toNatClampNeg = some x8 ∧ 5 ≤ x8 ∧ x8 < N ∧ ∃ (i9_0 : Int32) (i9_1 : Int32) (r9_2 : Nat) (o9_3 : Option Nat) (o9_4 : Option Nat), G x8 = .inr (.inl (9, [.int i9_0, .int i9_1, .ref r9_2, va_rf o9_3, va_rf o9_4])) ∧ 9 < N ∧ ∃ (i10_5 : Int32) (i10_6 : Int32) (i10_7 : Int32), G 9 = .inr (.inl (2, [.ref 10, .ref 17, .ref 18, .ref 20, .ref 22, .int i10_5, .int i10_6, .int i10_7])) ∧ cT (61) sM_55 0 [(0, .ref 9), (1, .ref x8), (2, .int p2)] [] (N) G (fun r11 N11 G11 kc11 ks11 => ∃ v11 : Int32, r11 = .inl (some (.int v11)) ∧ cT (62) sM_87 5 [(0, .ref 9), (1, .ref y1), (2, .int p2), (3, .int v11), (4, .int (p4 + 1))] [] (N11) G11 (fun r N1 G1 kc1 ks1 => K r N1 G1 (kc11 + kc1) (ks11 + ks1)))) ∧ (i1_1.toInt ≤ p4.toInt → False))))))))) : cT (62) sM_87 5 [(0, .ref 9), (1, .ref y1), (2, .int p2), (3, .int p3), (4, .int p4)] [] N G K := by
  intro d dc ds P hP
  refine w_mv (pc1 := 7) (st1 := [.int p4]) rfl rfl rfl ?_
  refine w_mv (pc1 := 8) (st1 := [.ref y1, .int p4]) rfl rfl rfl ?_
  obtain ⟨b1a, b1b, r1_0, i1_1, i1_2, g1, hh⟩ := hh
  refine w_call (M' := sM_165) (vals := [.ref y1]) (rest := [.int p4]) (lv' := [(0, .ref y1)]) rfl rfl rfl rfl rfl rfl (cH_rcv (by omega) (by omega) g1) rfl rfl rfl ?_
  refine w_mv (pc1 := 1) (st1 := [.ref y1]) rfl rfl rfl ?_
  refine cw_gf (v := .int i1_1) (pc1 := 4) rfl (by omega) (by omega) g1 rfl rfl ?_
  refine w_iret (pc1 := 11) rfl rfl rfl rfl ?_
  by_cases h2 : i1_1.toInt ≤ p4.toInt
  ·
    replace hh := hh.1 h2
    refine w_ige_T (pc1 := 39) rfl rfl (show i1_1.toInt ≤ p4.toInt from h2) ?_
    refine w_mv (pc1 := 40) (st1 := [.int p3]) rfl rfl rfl ?_
    refine sx_wp.stop rfl rfl rfl ?_
    exact c_acc (hP _ _ _ _ _ hh) (by omega) (by omega)
  ·
    replace hh := hh.2 (Int.not_le.mp h2)
    refine w_ige_F (pc1 := 14) rfl (by decide) rfl (show p4.toInt < i1_1.toInt from (Int.not_le.mp h2)) ?_
    refine w_mv (pc1 := 15) (st1 := [.int p3]) rfl rfl rfl ?_
    by_cases h3 : p3.toInt = 0
    ·
      replace hh := hh.2 h3
      refine w_zne_F (pc1 := 18) rfl (by decide) rfl (show p3.toInt = 0 from h3) ?_
      refine w_mv (pc1 := 19) (st1 := [.ref 9]) rfl rfl rfl ?_
      refine w_mv (pc1 := 20) (st1 := [.ref y1, .ref 9]) rfl rfl rfl ?_
      refine w_mv (pc1 := 22) (st1 := [.int p4, .ref y1, .ref 9]) rfl rfl rfl ?_
      refine w_call (M' := sM_179) (vals := [.ref y1, .int p4]) (rest := [.ref 9]) (lv' := [(0, .ref y1), (1, .int p4)]) rfl rfl rfl rfl rfl rfl (cH_rcv (by omega) (by omega) g1) rfl rfl rfl ?_
      refine w_mv (pc1 := 1) (st1 := [.int p4]) rfl rfl rfl ?_
      refine w_mv (pc1 := 2) (st1 := [.ref y1, .int p4]) rfl rfl rfl ?_
      refine cw_gf (v := .int i1_1) (pc1 := 5) rfl (by omega) (by omega) g1 rfl rfl ?_
      refine w_call (M' := sM_176) (vals := [.int p4, .int i1_1]) (rest := []) (lv' := [(0, .int p4), (1, .int i1_1)]) rfl rfl rfl rfl rfl rfl rfl rfl rfl rfl ?_
      refine w_mv (pc1 := 1) (st1 := [.int p4]) rfl rfl rfl ?_
      refine w_mv (pc1 := 2) (st1 := [.int i1_1, .int p4]) rfl rfl rfl ?_
      refine w_mv (pc1 := 3) (st1 := [.null, .int i1_1, .int p4]) rfl rfl rfl ?_
      refine w_call (M' := sM_177) (vals := [.int p4, .int i1_1, .null]) (rest := []) (lv' := [(0, .int p4), (1, .int i1_1), (2, .null)]) rfl rfl rfl rfl rfl rfl rfl rfl rfl rfl ?_
      refine w_mv (pc1 := 1) (st1 := [.int p4]) rfl rfl rfl ?_
      by_cases h4 : p4.toInt < 0
      ·
        replace hh := hh.1 h4
        refine w_zlt_T (pc1 := 9) rfl rfl (show p4.toInt < 0 from h4) ?_
        refine w_mv (pc1 := 10) (st1 := [.null]) rfl rfl rfl ?_
        refine w_mv (pc1 := 11) (st1 := [.int p4, .null]) rfl rfl rfl ?_
        refine w_mv (pc1 := 12) (st1 := [.int i1_1, .int p4, .null]) rfl rfl rfl ?_
        exact hh.elim
      ·
        replace hh := hh.2 (Int.not_lt.mp h4)
        refine w_zlt_F (pc1 := 4) rfl (by decide) rfl (show 0 ≤ p4.toInt from (Int.not_lt.mp h4)) ?_
        refine w_mv (pc1 := 5) (st1 := [.int p4]) rfl rfl rfl ?_
        refine w_mv (pc1 := 6) (st1 := [.int i1_1, .int p4]) rfl rfl rfl ?_
        by_cases h5 : p4.toInt < i1_1.toInt
        ·
          replace hh := hh.1 h5
          refine w_ilt_T (pc1 := 16) rfl rfl (show p4.toInt < i1_1.toInt from h5) ?_
          refine w_mv (pc1 := 17) (st1 := [.int p4]) rfl rfl rfl ?_
          refine w_iret (pc1 := 6) rfl rfl rfl rfl ?_
          refine w_iret (pc1 := 8) rfl rfl rfl rfl ?_
          refine w_mv (pc1 := 9) (st1 := []) rfl rfl rfl ?_
          refine w_mv (pc1 := 10) (st1 := [.ref y1]) rfl rfl rfl ?_
          refine w_mv (pc1 := 11) (st1 := [.int p4, .ref y1]) rfl rfl rfl ?_
          refine w_call (M' := sM_180) (vals := [.ref y1, .int p4]) (rest := []) (lv' := [(0, .ref y1), (1, .int p4)]) rfl rfl rfl rfl rfl rfl (cH_rcv (by omega) (by omega) g1) rfl rfl rfl ?_
          refine w_mv (pc1 := 1) (st1 := [.ref y1]) rfl rfl rfl ?_
          refine cw_gf (v := .ref r1_0) (pc1 := 4) rfl (by omega) (by omega) g1 rfl rfl ?_
          refine w_mv (pc1 := 5) (st1 := [.int p4, .ref r1_0]) rfl rfl rfl ?_
          obtain ⟨b6b, n6, f6, g6, hh⟩ := hh
          obtain ⟨q7a, q7b, hh⟩ := hh
          refine cw_ald (pc1 := 6) rfl (by omega) g6 rfl q7a q7b rfl ?_
          obtain ⟨x8, e8, hh⟩ := hh
          rw [e8]
          refine w_aret (pc1 := 14) rfl rfl rfl rfl ?_
          refine w_aret (pc1 := 25) rfl rfl rfl rfl ?_
          obtain ⟨b9a, b9b, i9_0, i9_1, r9_2, o9_3, o9_4, g9, hh⟩ := hh
          refine cw_cast (pc1 := 28) rfl (by omega) (by omega) g9 rfl ?_
          refine w_mv (pc1 := 29) (st1 := [.int p2, .ref x8, .ref 9]) rfl rfl rfl ?_
          obtain ⟨b10b, i10_5, i10_6, i10_7, g10, hh⟩ := hh
          refine w_call (M' := sM_55) (vals := [.ref 9, .ref x8, .int p2]) (rest := []) (lv' := [(0, .ref 9), (1, .ref x8), (2, .int p2)]) rfl rfl rfl rfl rfl rfl (cH_rcv (by omega) (by omega) g10) rfl rfl rfl ?_
          refine hh _ _ _ _ (fun r11 N11 G11 kc11 ks11 hh => ?_)
          obtain ⟨v11, er11, hh⟩ := hh
          subst er11
          refine w_ki (pc1 := 32) rfl ?_
          refine w_mv (pc1 := 33) (lv1 := [(3, .int v11), (0, .ref 9), (1, .ref y1), (2, .int p2), (4, .int p4)]) (st1 := []) rfl rfl rfl ?_
          refine w_mv (pc1 := 36) (lv1 := [(4, .int (p4 + 1)), (3, .int v11), (0, .ref 9), (1, .ref y1), (2, .int p2)]) (st1 := []) rfl rfl rfl ?_
          refine w_mv (pc1 := 5) (st1 := []) rfl rfl rfl ?_
          refine w_wk (l1 := [(0, .ref 9), (1, .ref y1), (2, .int p2), (3, .int v11), (4, .int (p4 + 1))]) rfl ⟨rfl, rfl, rfl, rfl, rfl, trivial⟩ ?_
          refine hh d _ _ P (fun r N1 G1 kc1 ks1 q => ?_)
          exact c_acc (hP r N1 G1 _ _ q) (by omega) (by omega)
        ·
          replace hh := hh.2 (Int.not_lt.mp h5)
          refine w_ilt_F (pc1 := 9) rfl (by decide) rfl (show i1_1.toInt ≤ p4.toInt from (Int.not_lt.mp h5)) ?_
          refine w_mv (pc1 := 10) (st1 := [.null]) rfl rfl rfl ?_
          refine w_mv (pc1 := 11) (st1 := [.int p4, .null]) rfl rfl rfl ?_
          refine w_mv (pc1 := 12) (st1 := [.int i1_1, .int p4, .null]) rfl rfl rfl ?_
          exact hh.elim
    ·
      replace hh := hh.1 h3
      refine w_zne_T (pc1 := 39) rfl rfl (show p3.toInt ≠ 0 from h3) ?_
      refine w_mv (pc1 := 40) (st1 := [.int p3]) rfl rfl rfl ?_
      refine sx_wp.stop rfl rfl rfl ?_
      exact c_acc (hP _ _ _ _ _ hh) (by omega) (by omega)
set_option maxRecDepth 20000 in
set_option maxHeartbeats 4000000 in
theorem k_89_0 {x0 : Nat} {y1 : Nat} {N : Nat} {G : Nat → sx_C} {K : Option Value ⊕ Nat → Nat → (Nat → sx_C) → Nat → Nat → Prop} (hh : 5 ≤ x0 ∧ x0 < N ∧ ∃ (i1_0 : Int32) (i1_1 : Int32) (o1_2 : Option Nat) (o1_3 : Option Nat) (o1_4 : Option Nat) (i1_6 : Int32), G x0 = .inr (.inl (11, [.int i1_0, .int i1_1, va_rf o1_2, va_rf o1_3, va_rf o1_4, .ref (x0 + 1), .int i1_6])) ∧ cT (1) sM_90 0 [(0, .ref x0), (1, .ref y1)] [] (N) G (fun r2 N2 G2 kc2 ks2 => N = N2 ∧ G = G2 ∧ 0 = kc2 ∧ 0 = ks2 ∧ ∃ v2 : Int32, r2 = .inl (some (.int v2)) ∧ ((v2.toInt ≠ 0 → K (.inl none) (N) G (0) (0)) ∧ (v2.toInt = 0 → ((12 ≤ i1_6.toInt → K (.inl none) (N) G (0) (0)) ∧ (i1_6.toInt < 12 → 5 ≤ x0 + 1 ∧ x0 + 1 < N ∧ ∃ (f5 : Nat → Option Nat), G (x0 + 1) = .inl (6, (12, .inr (.inr (.inr (.inr f5))))) ∧ 0 ≤ i1_6.toInt ∧ i1_6.toInt < (12 : Nat) ∧ 5 ≤ y1 ∧ y1 < N ∧ ∃ (i7_1 : Int32) (i7_2 : Int32) (i7_3 : Int32) (o7_4 : Option Nat), G y1 = .inr (.inl (10, [.ref (y1 + 1), .int i7_1, .int i7_2, .int i7_3, va_rf o7_4])) ∧ K (.inl none) (N) (va_up (va_up G (x0 + 1) (.inl (6, (12, .inr (.inr (.inr (.inr (va_up f5 i1_6.toNatClampNeg (some y1))))))))) x0 (.inr (.inl (11, [.int i1_0, .int i1_1, va_rf o1_2, va_rf o1_3, va_rf o1_4, .ref (x0 + 1), .int (i1_6 + 1)])))) (0) (0))))))) : cT (2) sM_89 0 [(0, .ref x0), (1, .ref y1)] [] N G K := by
  intro d dc ds P hP
  refine w_mv (pc1 := 1) (st1 := [.ref x0]) rfl rfl rfl ?_
  refine w_mv (pc1 := 2) (st1 := [.ref y1, .ref x0]) rfl rfl rfl ?_
  obtain ⟨b1a, b1b, i1_0, i1_1, o1_2, o1_3, o1_4, i1_6, g1, hh⟩ := hh
  refine w_call (M' := sM_90) (vals := [.ref x0, .ref y1]) (rest := []) (lv' := [(0, .ref x0), (1, .ref y1)]) rfl rfl rfl rfl rfl rfl (cH_rcv (by omega) (by omega) g1) rfl rfl rfl ?_
  refine hh _ _ _ _ (fun r2 N2 G2 kc2 ks2 hh => ?_)
  obtain ⟨eN2, eG2, ek2, es2, hh⟩ := hh
  subst eN2
  subst eG2
  subst ek2
  subst es2
  obtain ⟨v2, er2, hh⟩ := hh
  subst er2
  refine w_ki (pc1 := 5) rfl ?_
  by_cases h3 : v2.toInt = 0
  ·
    replace hh := hh.2 h3
    refine w_zne_F (pc1 := 8) rfl (by decide) rfl (show v2.toInt = 0 from h3) ?_
    refine w_mv (pc1 := 9) (st1 := [.ref x0]) rfl rfl rfl ?_
    refine cw_gf (v := .int i1_6) (pc1 := 12) rfl (by omega) (by omega) g1 rfl rfl ?_
    refine w_mv (pc1 := 14) (st1 := [.int 12, .int i1_6]) rfl rfl rfl ?_
    by_cases h4 : 12 ≤ i1_6.toInt
    ·
      replace hh := hh.1 h4
      refine w_ige_T (pc1 := 37) rfl rfl (show 12 ≤ i1_6.toInt from h4) ?_
      refine sx_wp.stop rfl rfl rfl ?_
      exact c_acc (hP _ _ _ _ _ hh) (by omega) (by omega)
    ·
      replace hh := hh.2 (Int.not_le.mp h4)
      refine w_ige_F (pc1 := 17) rfl (by decide) rfl (show i1_6.toInt < 12 from (Int.not_le.mp h4)) ?_
      refine w_mv (pc1 := 18) (st1 := [.ref x0]) rfl rfl rfl ?_
      refine cw_gf (v := .ref (x0 + 1)) (pc1 := 21) rfl (by omega) (by omega) g1 rfl rfl ?_
      refine w_mv (pc1 := 22) (st1 := [.ref x0, .ref (x0 + 1)]) rfl rfl rfl ?_
      refine cw_gf (v := .int i1_6) (pc1 := 25) rfl (by omega) (by omega) g1 rfl rfl ?_
      refine w_mv (pc1 := 26) (st1 := [.ref y1, .int i1_6, .ref (x0 + 1)]) rfl rfl rfl ?_
      obtain ⟨b5a, b5b, f5, g5, hh⟩ := hh
      obtain ⟨q6a, q6b, hh⟩ := hh
      obtain ⟨b7a, b7b, i7_1, i7_2, i7_3, o7_4, g7, hh⟩ := hh
      refine cw_as (pc1 := 27) rfl (by omega) (by omega) g5 (by omega) (by omega) g7 rfl q6a q6b rfl ?_
      have g8 : (va_up G (x0 + 1) (.inl (6, (12, .inr (.inr (.inr (.inr (va_up f5 i1_6.toNatClampNeg (some y1))))))))) x0 = .inr (.inl (11, [.int i1_0, .int i1_1, va_rf o1_2, va_rf o1_3, va_rf o1_4, .ref (x0 + 1), .int i1_6])) := (va_ne (ne_oa g1 g5)).trans g1
      have g9 : (va_up G (x0 + 1) (.inl (6, (12, .inr (.inr (.inr (.inr (va_up f5 i1_6.toNatClampNeg (some y1))))))))) y1 = .inr (.inl (10, [.ref (y1 + 1), .int i7_1, .int i7_2, .int i7_3, va_rf o7_4])) := (va_ne (ne_oa g7 g5)).trans g7
      have g10 : (va_up G (x0 + 1) (.inl (6, (12, .inr (.inr (.inr (.inr (va_up f5 i1_6.toNatClampNeg (some y1))))))))) (x0 + 1) = .inl (6, (12, .inr (.inr (.inr (.inr (va_up f5 i1_6.toNatClampNeg (some y1))))))) := up_eq
      refine w_mv (pc1 := 28) (st1 := [.ref x0]) rfl rfl rfl ?_
      refine w_mv (pc1 := 29) (st1 := [.ref x0, .ref x0]) rfl rfl rfl ?_
      refine cw_gf (v := .int i1_6) (pc1 := 32) rfl (by omega) (by omega) g8 rfl rfl ?_
      refine w_mv (pc1 := 33) (st1 := [.int 1, .int i1_6, .ref x0]) rfl rfl rfl ?_
      refine w_mv (pc1 := 34) (st1 := [.int (i1_6 + 1), .ref x0]) rfl rfl rfl ?_
      refine cw_pf (c1 := .inr (.inl (11, [.int i1_0, .int i1_1, va_rf o1_2, va_rf o1_3, va_rf o1_4, .ref (x0 + 1), .int (i1_6 + 1)]))) (pc1 := 37) rfl (by omega) (by omega) g8 rfl rfl rfl rfl ?_
      have g11 : (va_up (va_up G (x0 + 1) (.inl (6, (12, .inr (.inr (.inr (.inr (va_up f5 i1_6.toNatClampNeg (some y1))))))))) x0 (.inr (.inl (11, [.int i1_0, .int i1_1, va_rf o1_2, va_rf o1_3, va_rf o1_4, .ref (x0 + 1), .int (i1_6 + 1)])))) y1 = .inr (.inl (10, [.ref (y1 + 1), .int i7_1, .int i7_2, .int i7_3, va_rf o7_4])) := (va_ne (ne_ob g9 g8 (by decide))).trans g9
      have g12 : (va_up (va_up G (x0 + 1) (.inl (6, (12, .inr (.inr (.inr (.inr (va_up f5 i1_6.toNatClampNeg (some y1))))))))) x0 (.inr (.inl (11, [.int i1_0, .int i1_1, va_rf o1_2, va_rf o1_3, va_rf o1_4, .ref (x0 + 1), .int (i1_6 + 1)])))) (x0 + 1) = .inl (6, (12, .inr (.inr (.inr (.inr (va_up f5 i1_6.toNatClampNeg (some y1))))))) := (va_ne (ne_ao g10 g8)).trans g10
      have g13 : (va_up (va_up G (x0 + 1) (.inl (6, (12, .inr (.inr (.inr (.inr (va_up f5 i1_6.toNatClampNeg (some y1))))))))) x0 (.inr (.inl (11, [.int i1_0, .int i1_1, va_rf o1_2, va_rf o1_3, va_rf o1_4, .ref (x0 + 1), .int (i1_6 + 1)])))) x0 = .inr (.inl (11, [.int i1_0, .int i1_1, va_rf o1_2, va_rf o1_3, va_rf o1_4, .ref (x0 + 1), .int (i1_6 + 1)])) := up_eq
      refine sx_wp.stop rfl rfl rfl ?_
      exact c_acc (hP _ _ _ _ _ hh) (by omega) (by omega)
  ·
    replace hh := hh.1 h3
    refine w_zne_T (pc1 := 37) rfl rfl (show v2.toInt ≠ 0 from h3) ?_
    refine sx_wp.stop rfl rfl rfl ?_
    exact c_acc (hP _ _ _ _ _ hh) (by omega) (by omega)
set_option maxRecDepth 20000 in
set_option maxHeartbeats 4000000 in
theorem k_90_0 {x0 : Nat} {y1 : Nat} {N : Nat} {G : Nat → sx_C} {K : Option Value ⊕ Nat → Nat → (Nat → sx_C) → Nat → Nat → Prop} (hh : cT (1) sM_90 2 [(0, .ref x0), (1, .ref y1), (2, .int 0)] [] (N) G (fun r N1 G1 kc1 ks1 => K r N1 G1 (kc1) (ks1))) : cT (1) sM_90 0 [(0, .ref x0), (1, .ref y1)] [] N G K := by
  intro d dc ds P hP
  refine w_mv (pc1 := 1) (st1 := [.int 0]) rfl rfl rfl ?_
  refine w_mv (pc1 := 2) (lv1 := [(2, .int 0), (0, .ref x0), (1, .ref y1)]) (st1 := []) rfl rfl rfl ?_
  refine w_wk (l1 := [(0, .ref x0), (1, .ref y1), (2, .int 0)]) rfl ⟨rfl, rfl, rfl, trivial⟩ ?_
  refine hh d _ _ P (fun r N1 G1 kc1 ks1 q => ?_)
  exact c_acc (hP r N1 G1 _ _ q) (by omega) (by omega)
set_option maxRecDepth 20000 in
set_option maxHeartbeats 4000000 in
theorem k_90_2 {y0 : Nat} {y1 : Nat} {p2 : Int32} {N : Nat} {G : Nat → sx_C} {K : Option Value ⊕ Nat → Nat → (Nat → sx_C) → Nat → Nat → Prop} (hh : 5 ≤ y0 ∧ y0 < N ∧ ∃ (i1_0 : Int32) (i1_1 : Int32) (o1_2 : Option Nat) (o1_3 : Option Nat) (o1_4 : Option Nat) (i1_6 : Int32), G y0 = .inr (.inl (11, [.int i1_0, .int i1_1, va_rf o1_2, va_rf o1_3, va_rf o1_4, .ref (y0 + 1), .int i1_6])) ∧ ((i1_6.toInt ≤ p2.toInt → K (.inl (some (.int 0))) (N) G (0) (0)) ∧ (p2.toInt < i1_6.toInt → 5 ≤ y0 + 1 ∧ y0 + 1 < N ∧ ∃ (f3 : Nat → Option Nat), G (y0 + 1) = .inl (6, (12, .inr (.inr (.inr (.inr f3))))) ∧ 0 ≤ p2.toInt ∧ p2.toInt < (12 : Nat) ∧ ∀ o5, o5 = f3 p2.toNatClampNeg → ((o5 = none → y1 ≠ 4 ∧ cT (1) sM_90 2 [(0, .ref y0), (1, .ref y1), (2, .int (p2 + 1))] [] (N) G (fun r N1 G1 kc1 ks1 => K r N1 G1 (kc1) (ks1))) ∧ (∀ x6, o5 = some x6 → x6 ≠ 4 ∧ y1 ≠ 4 ∧ ((x6 = y1 → K (.inl (some (.int 1))) (N) G (0) (0)) ∧ (x6 ≠ y1 → cT (1) sM_90 2 [(0, .ref y0), (1, .ref y1), (2, .int (p2 + 1))] [] (N) G (fun r N1 G1 kc1 ks1 => K r N1 G1 (kc1) (ks1))))))))) : cT (1) sM_90 2 [(0, .ref y0), (1, .ref y1), (2, .int p2)] [] N G K := by
  intro d dc ds P hP
  refine w_mv (pc1 := 3) (st1 := [.int p2]) rfl rfl rfl ?_
  refine w_mv (pc1 := 4) (st1 := [.ref y0, .int p2]) rfl rfl rfl ?_
  obtain ⟨b1a, b1b, i1_0, i1_1, o1_2, o1_3, o1_4, i1_6, g1, hh⟩ := hh
  refine cw_gf (v := .int i1_6) (pc1 := 7) rfl (by omega) (by omega) g1 rfl rfl ?_
  by_cases h2 : i1_6.toInt ≤ p2.toInt
  ·
    replace hh := hh.1 h2
    refine w_ige_T (pc1 := 28) rfl rfl (show i1_6.toInt ≤ p2.toInt from h2) ?_
    refine w_mv (pc1 := 29) (st1 := [.int 0]) rfl rfl rfl ?_
    refine sx_wp.stop rfl rfl rfl ?_
    exact c_acc (hP _ _ _ _ _ hh) (by omega) (by omega)
  ·
    replace hh := hh.2 (Int.not_le.mp h2)
    refine w_ige_F (pc1 := 10) rfl (by decide) rfl (show p2.toInt < i1_6.toInt from (Int.not_le.mp h2)) ?_
    refine w_mv (pc1 := 11) (st1 := [.ref y0]) rfl rfl rfl ?_
    refine cw_gf (v := .ref (y0 + 1)) (pc1 := 14) rfl (by omega) (by omega) g1 rfl rfl ?_
    refine w_mv (pc1 := 15) (st1 := [.int p2, .ref (y0 + 1)]) rfl rfl rfl ?_
    obtain ⟨b3a, b3b, f3, g3, hh⟩ := hh
    obtain ⟨q4a, q4b, hh⟩ := hh
    refine cw_ald (pc1 := 16) rfl (by omega) g3 rfl q4a q4b rfl ?_
    obtain ⟨o5, e5⟩ : ∃ o, o = f3 p2.toNatClampNeg := ⟨_, rfl⟩
    replace hh := hh o5 e5
    rw [← e5]
    refine w_mv (pc1 := 17) (st1 := [.ref y1, va_rf o5]) rfl rfl rfl ?_
    cases o5 with
    | none =>
      replace hh := hh.1 rfl
      obtain ⟨q7a, hh⟩ := hh
      refine cw_acN_T (pc1 := 22) rfl rfl (op_r (by omega)) op_n o_n1 ?_
      refine w_mv (pc1 := 25) (lv1 := [(2, .int (p2 + 1)), (0, .ref y0), (1, .ref y1)]) (st1 := []) rfl rfl rfl ?_
      refine w_mv (pc1 := 2) (st1 := []) rfl rfl rfl ?_
      refine w_wk (l1 := [(0, .ref y0), (1, .ref y1), (2, .int (p2 + 1))]) rfl ⟨rfl, rfl, rfl, trivial⟩ ?_
      refine hh d _ _ P (fun r N1 G1 kc1 ks1 q => ?_)
      exact c_acc (hP r N1 G1 _ _ q) (by omega) (by omega)
    | some x6 =>
      replace hh := hh.2 x6 rfl
      obtain ⟨q8a, hh⟩ := hh
      obtain ⟨q9a, hh⟩ := hh
      by_cases h10 : x6 = y1
      ·
        replace hh := hh.1 h10
        refine cw_acN_F (pc1 := 20) rfl (by decide) rfl (op_r (by omega)) (op_r (by omega)) (o_eq h10) ?_
        refine w_mv (pc1 := 21) (st1 := [.int 1]) rfl rfl rfl ?_
        refine sx_wp.stop rfl rfl rfl ?_
        exact c_acc (hP _ _ _ _ _ hh) (by omega) (by omega)
      ·
        replace hh := hh.2 h10
        refine cw_acN_T (pc1 := 22) rfl rfl (op_r (by omega)) (op_r (by omega)) (o_ne h10) ?_
        refine w_mv (pc1 := 25) (lv1 := [(2, .int (p2 + 1)), (0, .ref y0), (1, .ref y1)]) (st1 := []) rfl rfl rfl ?_
        refine w_mv (pc1 := 2) (st1 := []) rfl rfl rfl ?_
        refine w_wk (l1 := [(0, .ref y0), (1, .ref y1), (2, .int (p2 + 1))]) rfl ⟨rfl, rfl, rfl, trivial⟩ ?_
        refine hh d _ _ P (fun r N1 G1 kc1 ks1 q => ?_)
        exact c_acc (hP r N1 G1 _ _ q) (by omega) (by omega)
set_option maxRecDepth 20000 in
set_option maxHeartbeats 4000000 in
theorem k_92_0 {y1 : Nat} {p2 : Int32} {N : Nat} {G : Nat → sx_C} {K : Option Value ⊕ Nat → Nat → (Nat → sx_C) → Nat → Nat → Prop} (hh : ((p2.toInt ≠ 2 → 9 < N ∧ ∃ (i23_5 : Int32) (i23_6 : Int32) (i23_7 : Int32), G 9 = .inr (.inl (2, [.ref 10, .ref 17, .ref 18, .ref 20, .ref 22, .int i23_5, .int i23_6, .int i23_7])) ∧ 20 < N ∧ ∃ (i24_1 : Int32), G 20 = .inr (.inl (6, [.ref 21, .int i24_1])) ∧ 21 < N ∧ ∃ (f25 : Nat → Option Nat), G 21 = .inl (7, (61, .inr (.inr (.inr (.inr f25))))) ∧ ((61 ≤ i24_1.toInt → ((p2.toInt ≠ 1 → ((p2.toInt ≠ 3 → K (.inl none) (N) G (0) (0)) ∧ (p2.toInt = 3 → K (.inl none) (N) (va_up G 9 (.inr (.inl (2, [.ref 10, .ref 17, .ref 18, .ref 20, .ref 22, .int 3, .int i23_6, .int i23_7])))) (0) (0)))) ∧ (p2.toInt = 1 → K (.inl none) (N) (va_up G 9 (.inr (.inl (2, [.ref 10, .ref 17, .ref 18, .ref 20, .ref 22, .int 2, .int i23_6, .int i23_7])))) (0) (0)))) ∧ (i24_1.toInt < 61 → 0 ≤ i24_1.toInt ∧ i24_1.toInt < (61 : Nat) ∧ 5 ≤ y1 ∧ y1 < N ∧ ∃ (i36_0 : Int32) (i36_1 : Int32) (o36_2 : Option Nat) (o36_3 : Option Nat) (o36_4 : Option Nat) (i36_6 : Int32), G y1 = .inr (.inl (11, [.int i36_0, .int i36_1, va_rf o36_2, va_rf o36_3, va_rf o36_4, .ref (y1 + 1), .int i36_6])) ∧ ((p2.toInt ≠ 1 → ((p2.toInt ≠ 3 → K (.inl none) (N) (va_up (va_up G 21 (.inl (7, (61, .inr (.inr (.inr (.inr (va_up f25 i24_1.toNatClampNeg (some y1))))))))) 20 (.inr (.inl (6, [.ref 21, .int (i24_1 + 1)])))) (0) (0)) ∧ (p2.toInt = 3 → K (.inl none) (N) (va_up (va_up (va_up G 21 (.inl (7, (61, .inr (.inr (.inr (.inr (va_up f25 i24_1.toNatClampNeg (some y1))))))))) 20 (.inr (.inl (6, [.ref 21, .int (i24_1 + 1)])))) 9 (.inr (.inl (2, [.ref 10, .ref 17, .ref 18, .ref 20, .ref 22, .int 3, .int i23_6, .int i23_7])))) (0) (0)))) ∧ (p2.toInt = 1 → K (.inl none) (N) (va_up (va_up (va_up G 21 (.inl (7, (61, .inr (.inr (.inr (.inr (va_up f25 i24_1.toNatClampNeg (some y1))))))))) 20 (.inr (.inl (6, [.ref 21, .int (i24_1 + 1)])))) 9 (.inr (.inl (2, [.ref 10, .ref 17, .ref 18, .ref 20, .ref 22, .int 2, .int i23_6, .int i23_7])))) (0) (0)))))) ∧ (p2.toInt = 2 → 9 < N ∧ ∃ (i2_5 : Int32) (i2_6 : Int32) (i2_7 : Int32), G 9 = .inr (.inl (2, [.ref 10, .ref 17, .ref 18, .ref 20, .ref 22, .int i2_5, .int i2_6, .int i2_7])) ∧ 18 < N ∧ ∃ (i3_1 : Int32), G 18 = .inr (.inl (6, [.ref 19, .int i3_1])) ∧ 19 < N ∧ ∃ (f4 : Nat → Option Nat), G 19 = .inl (7, (61, .inr (.inr (.inr (.inr f4))))) ∧ ((61 ≤ i3_1.toInt → K (.inl none) (N) (va_up G 9 (.inr (.inl (2, [.ref 10, .ref 17, .ref 18, .ref 20, .ref 22, .int i2_5, .int i2_6, .int (i2_7 + 1)])))) (0) (0)) ∧ (i3_1.toInt < 61 → 0 ≤ i3_1.toInt ∧ i3_1.toInt < (61 : Nat) ∧ 5 ≤ y1 ∧ y1 < N ∧ ∃ (i10_0 : Int32) (i10_1 : Int32) (o10_2 : Option Nat) (o10_3 : Option Nat) (o10_4 : Option Nat) (i10_6 : Int32), G y1 = .inr (.inl (11, [.int i10_0, .int i10_1, va_rf o10_2, va_rf o10_3, va_rf o10_4, .ref (y1 + 1), .int i10_6])) ∧ K (.inl none) (N) (va_up (va_up (va_up G 19 (.inl (7, (61, .inr (.inr (.inr (.inr (va_up f4 i3_1.toNatClampNeg (some y1))))))))) 18 (.inr (.inl (6, [.ref 19, .int (i3_1 + 1)])))) 9 (.inr (.inl (2, [.ref 10, .ref 17, .ref 18, .ref 20, .ref 22, .int i2_5, .int i2_6, .int (i2_7 + 1)])))) (0) (0)))))) : cT (2) sM_92 0 [(0, .ref 9), (1, .ref y1), (2, .int p2)] [] N G K := by
  intro d dc ds P hP
  refine w_mv (pc1 := 1) (st1 := [.int p2]) rfl rfl rfl ?_
  refine w_mv (pc1 := 2) (st1 := [.int 2, .int p2]) rfl rfl rfl ?_
  by_cases h1 : p2.toInt = 2
  ·
    replace hh := hh.2 h1
    refine w_ine_F (pc1 := 5) rfl (by decide) rfl (show p2.toInt = 2 from h1) ?_
    refine w_mv (pc1 := 6) (st1 := [.ref 9]) rfl rfl rfl ?_
    obtain ⟨b2b, i2_5, i2_6, i2_7, g2, hh⟩ := hh
    refine cw_gf (v := .ref 18) (pc1 := 9) rfl (by omega) (by omega) g2 rfl rfl ?_
    refine w_mv (pc1 := 10) (st1 := [.ref y1, .ref 18]) rfl rfl rfl ?_
    obtain ⟨b3b, i3_1, g3, hh⟩ := hh
    refine w_call (M' := sM_52) (vals := [.ref 18, .ref y1]) (rest := []) (lv' := [(0, .ref 18), (1, .ref y1)]) rfl rfl rfl rfl rfl rfl (cH_rcv (by omega) (by omega) g3) rfl rfl rfl ?_
    refine w_mv (pc1 := 1) (st1 := [.ref 18]) rfl rfl rfl ?_
    refine cw_gf (v := .int i3_1) (pc1 := 4) rfl (by omega) (by omega) g3 rfl rfl ?_
    refine w_mv (pc1 := 5) (st1 := [.ref 18, .int i3_1]) rfl rfl rfl ?_
    refine cw_gf (v := .ref 19) (pc1 := 8) rfl (by omega) (by omega) g3 rfl rfl ?_
    obtain ⟨b4b, f4, g4, hh⟩ := hh
    refine cw_alen (pc1 := 9) rfl (by omega) g4 rfl ?_
    by_cases h5 : 61 ≤ i3_1.toInt
    ·
      replace hh := hh.1 h5
      refine w_ige_T (pc1 := 32) rfl rfl (show 61 ≤ i3_1.toInt from h5) ?_
      refine w_vret (pc1 := 13) rfl rfl rfl ?_
      refine w_mv (pc1 := 14) (st1 := [.ref 9]) rfl rfl rfl ?_
      refine w_mv (pc1 := 15) (st1 := [.ref 9, .ref 9]) rfl rfl rfl ?_
      refine cw_gf (v := .int i2_7) (pc1 := 18) rfl (by omega) (by omega) g2 rfl rfl ?_
      refine w_mv (pc1 := 19) (st1 := [.int 1, .int i2_7, .ref 9]) rfl rfl rfl ?_
      refine w_mv (pc1 := 20) (st1 := [.int (i2_7 + 1), .ref 9]) rfl rfl rfl ?_
      refine cw_pf (c1 := .inr (.inl (2, [.ref 10, .ref 17, .ref 18, .ref 20, .ref 22, .int i2_5, .int i2_6, .int (i2_7 + 1)]))) (pc1 := 23) rfl (by omega) (by omega) g2 rfl rfl rfl rfl ?_
      have g6 : (va_up G 9 (.inr (.inl (2, [.ref 10, .ref 17, .ref 18, .ref 20, .ref 22, .int i2_5, .int i2_6, .int (i2_7 + 1)])))) 18 = .inr (.inl (6, [.ref 19, .int i3_1])) := (va_ne (ne_ob g3 g2 (by decide))).trans g3
      have g7 : (va_up G 9 (.inr (.inl (2, [.ref 10, .ref 17, .ref 18, .ref 20, .ref 22, .int i2_5, .int i2_6, .int (i2_7 + 1)])))) 19 = .inl (7, (61, .inr (.inr (.inr (.inr f4))))) := (va_ne (ne_ao g4 g2)).trans g4
      have g8 : (va_up G 9 (.inr (.inl (2, [.ref 10, .ref 17, .ref 18, .ref 20, .ref 22, .int i2_5, .int i2_6, .int (i2_7 + 1)])))) 9 = .inr (.inl (2, [.ref 10, .ref 17, .ref 18, .ref 20, .ref 22, .int i2_5, .int i2_6, .int (i2_7 + 1)])) := up_eq
      refine sx_wp.stop rfl rfl rfl ?_
      exact c_acc (hP _ _ _ _ _ hh) (by omega) (by omega)
    ·
      replace hh := hh.2 (Int.not_le.mp h5)
      refine w_ige_F (pc1 := 12) rfl (by decide) rfl (show i3_1.toInt < 61 from (Int.not_le.mp h5)) ?_
      refine w_mv (pc1 := 13) (st1 := [.ref 18]) rfl rfl rfl ?_
      refine cw_gf (v := .ref 19) (pc1 := 16) rfl (by omega) (by omega) g3 rfl rfl ?_
      refine w_mv (pc1 := 17) (st1 := [.ref 18, .ref 19]) rfl rfl rfl ?_
      refine cw_gf (v := .int i3_1) (pc1 := 20) rfl (by omega) (by omega) g3 rfl rfl ?_
      refine w_mv (pc1 := 21) (st1 := [.ref y1, .int i3_1, .ref 19]) rfl rfl rfl ?_
      obtain ⟨q9a, q9b, hh⟩ := hh
      obtain ⟨b10a, b10b, i10_0, i10_1, o10_2, o10_3, o10_4, i10_6, g10, hh⟩ := hh
      refine cw_as (pc1 := 22) rfl (by omega) (by omega) g4 (by omega) (by omega) g10 rfl q9a q9b rfl ?_
      have g11 : (va_up G 19 (.inl (7, (61, .inr (.inr (.inr (.inr (va_up f4 i3_1.toNatClampNeg (some y1))))))))) 9 = .inr (.inl (2, [.ref 10, .ref 17, .ref 18, .ref 20, .ref 22, .int i2_5, .int i2_6, .int i2_7])) := (va_ne (ne_oa g2 g4)).trans g2
      have g12 : (va_up G 19 (.inl (7, (61, .inr (.inr (.inr (.inr (va_up f4 i3_1.toNatClampNeg (some y1))))))))) 18 = .inr (.inl (6, [.ref 19, .int i3_1])) := (va_ne (ne_oa g3 g4)).trans g3
      have g13 : (va_up G 19 (.inl (7, (61, .inr (.inr (.inr (.inr (va_up f4 i3_1.toNatClampNeg (some y1))))))))) y1 = .inr (.inl (11, [.int i10_0, .int i10_1, va_rf o10_2, va_rf o10_3, va_rf o10_4, .ref (y1 + 1), .int i10_6])) := (va_ne (ne_oa g10 g4)).trans g10
      have g14 : (va_up G 19 (.inl (7, (61, .inr (.inr (.inr (.inr (va_up f4 i3_1.toNatClampNeg (some y1))))))))) 19 = .inl (7, (61, .inr (.inr (.inr (.inr (va_up f4 i3_1.toNatClampNeg (some y1))))))) := up_eq
      refine w_mv (pc1 := 23) (st1 := [.ref 18]) rfl rfl rfl ?_
      refine w_mv (pc1 := 24) (st1 := [.ref 18, .ref 18]) rfl rfl rfl ?_
      refine cw_gf (v := .int i3_1) (pc1 := 27) rfl (by omega) (by omega) g12 rfl rfl ?_
      refine w_mv (pc1 := 28) (st1 := [.int 1, .int i3_1, .ref 18]) rfl rfl rfl ?_
      refine w_mv (pc1 := 29) (st1 := [.int (i3_1 + 1), .ref 18]) rfl rfl rfl ?_
      refine cw_pf (c1 := .inr (.inl (6, [.ref 19, .int (i3_1 + 1)]))) (pc1 := 32) rfl (by omega) (by omega) g12 rfl rfl rfl rfl ?_
      have g15 : (va_up (va_up G 19 (.inl (7, (61, .inr (.inr (.inr (.inr (va_up f4 i3_1.toNatClampNeg (some y1))))))))) 18 (.inr (.inl (6, [.ref 19, .int (i3_1 + 1)])))) 9 = .inr (.inl (2, [.ref 10, .ref 17, .ref 18, .ref 20, .ref 22, .int i2_5, .int i2_6, .int i2_7])) := (va_ne (ne_ob g11 g12 (by decide))).trans g11
      have g16 : (va_up (va_up G 19 (.inl (7, (61, .inr (.inr (.inr (.inr (va_up f4 i3_1.toNatClampNeg (some y1))))))))) 18 (.inr (.inl (6, [.ref 19, .int (i3_1 + 1)])))) y1 = .inr (.inl (11, [.int i10_0, .int i10_1, va_rf o10_2, va_rf o10_3, va_rf o10_4, .ref (y1 + 1), .int i10_6])) := (va_ne (ne_ob g13 g12 (by decide))).trans g13
      have g17 : (va_up (va_up G 19 (.inl (7, (61, .inr (.inr (.inr (.inr (va_up f4 i3_1.toNatClampNeg (some y1))))))))) 18 (.inr (.inl (6, [.ref 19, .int (i3_1 + 1)])))) 19 = .inl (7, (61, .inr (.inr (.inr (.inr (va_up f4 i3_1.toNatClampNeg (some y1))))))) := (va_ne (ne_ao g14 g12)).trans g14
      have g18 : (va_up (va_up G 19 (.inl (7, (61, .inr (.inr (.inr (.inr (va_up f4 i3_1.toNatClampNeg (some y1))))))))) 18 (.inr (.inl (6, [.ref 19, .int (i3_1 + 1)])))) 18 = .inr (.inl (6, [.ref 19, .int (i3_1 + 1)])) := up_eq
      refine w_vret (pc1 := 13) rfl rfl rfl ?_
      refine w_mv (pc1 := 14) (st1 := [.ref 9]) rfl rfl rfl ?_
      refine w_mv (pc1 := 15) (st1 := [.ref 9, .ref 9]) rfl rfl rfl ?_
      refine cw_gf (v := .int i2_7) (pc1 := 18) rfl (by omega) (by omega) g15 rfl rfl ?_
      refine w_mv (pc1 := 19) (st1 := [.int 1, .int i2_7, .ref 9]) rfl rfl rfl ?_
      refine w_mv (pc1 := 20) (st1 := [.int (i2_7 + 1), .ref 9]) rfl rfl rfl ?_
      refine cw_pf (c1 := .inr (.inl (2, [.ref 10, .ref 17, .ref 18, .ref 20, .ref 22, .int i2_5, .int i2_6, .int (i2_7 + 1)]))) (pc1 := 23) rfl (by omega) (by omega) g15 rfl rfl rfl rfl ?_
      have g19 : (va_up (va_up (va_up G 19 (.inl (7, (61, .inr (.inr (.inr (.inr (va_up f4 i3_1.toNatClampNeg (some y1))))))))) 18 (.inr (.inl (6, [.ref 19, .int (i3_1 + 1)])))) 9 (.inr (.inl (2, [.ref 10, .ref 17, .ref 18, .ref 20, .ref 22, .int i2_5, .int i2_6, .int (i2_7 + 1)])))) y1 = .inr (.inl (11, [.int i10_0, .int i10_1, va_rf o10_2, va_rf o10_3, va_rf o10_4, .ref (y1 + 1), .int i10_6])) := (va_ne (ne_ob g16 g15 (by decide))).trans g16
      have g20 : (va_up (va_up (va_up G 19 (.inl (7, (61, .inr (.inr (.inr (.inr (va_up f4 i3_1.toNatClampNeg (some y1))))))))) 18 (.inr (.inl (6, [.ref 19, .int (i3_1 + 1)])))) 9 (.inr (.inl (2, [.ref 10, .ref 17, .ref 18, .ref 20, .ref 22, .int i2_5, .int i2_6, .int (i2_7 + 1)])))) 19 = .inl (7, (61, .inr (.inr (.inr (.inr (va_up f4 i3_1.toNatClampNeg (some y1))))))) := (va_ne (ne_ao g17 g15)).trans g17
      have g21 : (va_up (va_up (va_up G 19 (.inl (7, (61, .inr (.inr (.inr (.inr (va_up f4 i3_1.toNatClampNeg (some y1))))))))) 18 (.inr (.inl (6, [.ref 19, .int (i3_1 + 1)])))) 9 (.inr (.inl (2, [.ref 10, .ref 17, .ref 18, .ref 20, .ref 22, .int i2_5, .int i2_6, .int (i2_7 + 1)])))) 18 = .inr (.inl (6, [.ref 19, .int (i3_1 + 1)])) := (va_ne (ne_ob g18 g15 (by decide))).trans g18
      have g22 : (va_up (va_up (va_up G 19 (.inl (7, (61, .inr (.inr (.inr (.inr (va_up f4 i3_1.toNatClampNeg (some y1))))))))) 18 (.inr (.inl (6, [.ref 19, .int (i3_1 + 1)])))) 9 (.inr (.inl (2, [.ref 10, .ref 17, .ref 18, .ref 20, .ref 22, .int i2_5, .int i2_6, .int (i2_7 + 1)])))) 9 = .inr (.inl (2, [.ref 10, .ref 17, .ref 18, .ref 20, .ref 22, .int i2_5, .int i2_6, .int (i2_7 + 1)])) := up_eq
      refine sx_wp.stop rfl rfl rfl ?_
      exact c_acc (hP _ _ _ _ _ hh) (by omega) (by omega)
  ·
    replace hh := hh.1 h1
    refine w_ine_T (pc1 := 24) rfl rfl (show p2.toInt ≠ 2 from h1) ?_
    refine w_mv (pc1 := 25) (st1 := [.ref 9]) rfl rfl rfl ?_
    obtain ⟨b23b, i23_5, i23_6, i23_7, g23, hh⟩ := hh
    refine cw_gf (v := .ref 20) (pc1 := 28) rfl (by omega) (by omega) g23 rfl rfl ?_
    refine w_mv (pc1 := 29) (st1 := [.ref y1, .ref 20]) rfl rfl rfl ?_
    obtain ⟨b24b, i24_1, g24, hh⟩ := hh
    refine w_call (M' := sM_52) (vals := [.ref 20, .ref y1]) (rest := []) (lv' := [(0, .ref 20), (1, .ref y1)]) rfl rfl rfl rfl rfl rfl (cH_rcv (by omega) (by omega) g24) rfl rfl rfl ?_
    refine w_mv (pc1 := 1) (st1 := [.ref 20]) rfl rfl rfl ?_
    refine cw_gf (v := .int i24_1) (pc1 := 4) rfl (by omega) (by omega) g24 rfl rfl ?_
    refine w_mv (pc1 := 5) (st1 := [.ref 20, .int i24_1]) rfl rfl rfl ?_
    refine cw_gf (v := .ref 21) (pc1 := 8) rfl (by omega) (by omega) g24 rfl rfl ?_
    obtain ⟨b25b, f25, g25, hh⟩ := hh
    refine cw_alen (pc1 := 9) rfl (by omega) g25 rfl ?_
    by_cases h26 : 61 ≤ i24_1.toInt
    ·
      replace hh := hh.1 h26
      refine w_ige_T (pc1 := 32) rfl rfl (show 61 ≤ i24_1.toInt from h26) ?_
      refine w_vret (pc1 := 32) rfl rfl rfl ?_
      refine w_mv (pc1 := 33) (st1 := [.int p2]) rfl rfl rfl ?_
      refine w_mv (pc1 := 34) (st1 := [.int 1, .int p2]) rfl rfl rfl ?_
      by_cases h27 : p2.toInt = 1
      ·
        replace hh := hh.2 h27
        refine w_ine_F (pc1 := 37) rfl (by decide) rfl (show p2.toInt = 1 from h27) ?_
        refine w_mv (pc1 := 38) (st1 := [.ref 9]) rfl rfl rfl ?_
        refine w_mv (pc1 := 39) (st1 := [.int 2, .ref 9]) rfl rfl rfl ?_
        refine cw_pf (c1 := .inr (.inl (2, [.ref 10, .ref 17, .ref 18, .ref 20, .ref 22, .int 2, .int i23_6, .int i23_7]))) (pc1 := 42) rfl (by omega) (by omega) g23 rfl rfl rfl rfl ?_
        have g28 : (va_up G 9 (.inr (.inl (2, [.ref 10, .ref 17, .ref 18, .ref 20, .ref 22, .int 2, .int i23_6, .int i23_7])))) 20 = .inr (.inl (6, [.ref 21, .int i24_1])) := (va_ne (ne_ob g24 g23 (by decide))).trans g24
        have g29 : (va_up G 9 (.inr (.inl (2, [.ref 10, .ref 17, .ref 18, .ref 20, .ref 22, .int 2, .int i23_6, .int i23_7])))) 21 = .inl (7, (61, .inr (.inr (.inr (.inr f25))))) := (va_ne (ne_ao g25 g23)).trans g25
        have g30 : (va_up G 9 (.inr (.inl (2, [.ref 10, .ref 17, .ref 18, .ref 20, .ref 22, .int 2, .int i23_6, .int i23_7])))) 9 = .inr (.inl (2, [.ref 10, .ref 17, .ref 18, .ref 20, .ref 22, .int 2, .int i23_6, .int i23_7])) := up_eq
        refine w_mv (pc1 := 55) (st1 := []) rfl rfl rfl ?_
        refine sx_wp.stop rfl rfl rfl ?_
        exact c_acc (hP _ _ _ _ _ hh) (by omega) (by omega)
      ·
        replace hh := hh.1 h27
        refine w_ine_T (pc1 := 45) rfl rfl (show p2.toInt ≠ 1 from h27) ?_
        refine w_mv (pc1 := 46) (st1 := [.int p2]) rfl rfl rfl ?_
        refine w_mv (pc1 := 47) (st1 := [.int 3, .int p2]) rfl rfl rfl ?_
        by_cases h31 : p2.toInt = 3
        ·
          replace hh := hh.2 h31
          refine w_ine_F (pc1 := 50) rfl (by decide) rfl (show p2.toInt = 3 from h31) ?_
          refine w_mv (pc1 := 51) (st1 := [.ref 9]) rfl rfl rfl ?_
          refine w_mv (pc1 := 52) (st1 := [.int 3, .ref 9]) rfl rfl rfl ?_
          refine cw_pf (c1 := .inr (.inl (2, [.ref 10, .ref 17, .ref 18, .ref 20, .ref 22, .int 3, .int i23_6, .int i23_7]))) (pc1 := 55) rfl (by omega) (by omega) g23 rfl rfl rfl rfl ?_
          have g32 : (va_up G 9 (.inr (.inl (2, [.ref 10, .ref 17, .ref 18, .ref 20, .ref 22, .int 3, .int i23_6, .int i23_7])))) 20 = .inr (.inl (6, [.ref 21, .int i24_1])) := (va_ne (ne_ob g24 g23 (by decide))).trans g24
          have g33 : (va_up G 9 (.inr (.inl (2, [.ref 10, .ref 17, .ref 18, .ref 20, .ref 22, .int 3, .int i23_6, .int i23_7])))) 21 = .inl (7, (61, .inr (.inr (.inr (.inr f25))))) := (va_ne (ne_ao g25 g23)).trans g25
          have g34 : (va_up G 9 (.inr (.inl (2, [.ref 10, .ref 17, .ref 18, .ref 20, .ref 22, .int 3, .int i23_6, .int i23_7])))) 9 = .inr (.inl (2, [.ref 10, .ref 17, .ref 18, .ref 20, .ref 22, .int 3, .int i23_6, .int i23_7])) := up_eq
          refine sx_wp.stop rfl rfl rfl ?_
          exact c_acc (hP _ _ _ _ _ hh) (by omega) (by omega)
        ·
          replace hh := hh.1 h31
          refine w_ine_T (pc1 := 55) rfl rfl (show p2.toInt ≠ 3 from h31) ?_
          refine sx_wp.stop rfl rfl rfl ?_
          exact c_acc (hP _ _ _ _ _ hh) (by omega) (by omega)
    ·
      replace hh := hh.2 (Int.not_le.mp h26)
      refine w_ige_F (pc1 := 12) rfl (by decide) rfl (show i24_1.toInt < 61 from (Int.not_le.mp h26)) ?_
      refine w_mv (pc1 := 13) (st1 := [.ref 20]) rfl rfl rfl ?_
      refine cw_gf (v := .ref 21) (pc1 := 16) rfl (by omega) (by omega) g24 rfl rfl ?_
      refine w_mv (pc1 := 17) (st1 := [.ref 20, .ref 21]) rfl rfl rfl ?_
      refine cw_gf (v := .int i24_1) (pc1 := 20) rfl (by omega) (by omega) g24 rfl rfl ?_
      refine w_mv (pc1 := 21) (st1 := [.ref y1, .int i24_1, .ref 21]) rfl rfl rfl ?_
      obtain ⟨q35a, q35b, hh⟩ := hh
      obtain ⟨b36a, b36b, i36_0, i36_1, o36_2, o36_3, o36_4, i36_6, g36, hh⟩ := hh
      refine cw_as (pc1 := 22) rfl (by omega) (by omega) g25 (by omega) (by omega) g36 rfl q35a q35b rfl ?_
      have g37 : (va_up G 21 (.inl (7, (61, .inr (.inr (.inr (.inr (va_up f25 i24_1.toNatClampNeg (some y1))))))))) 9 = .inr (.inl (2, [.ref 10, .ref 17, .ref 18, .ref 20, .ref 22, .int i23_5, .int i23_6, .int i23_7])) := (va_ne (ne_oa g23 g25)).trans g23
      have g38 : (va_up G 21 (.inl (7, (61, .inr (.inr (.inr (.inr (va_up f25 i24_1.toNatClampNeg (some y1))))))))) 20 = .inr (.inl (6, [.ref 21, .int i24_1])) := (va_ne (ne_oa g24 g25)).trans g24
      have g39 : (va_up G 21 (.inl (7, (61, .inr (.inr (.inr (.inr (va_up f25 i24_1.toNatClampNeg (some y1))))))))) y1 = .inr (.inl (11, [.int i36_0, .int i36_1, va_rf o36_2, va_rf o36_3, va_rf o36_4, .ref (y1 + 1), .int i36_6])) := (va_ne (ne_oa g36 g25)).trans g36
      have g40 : (va_up G 21 (.inl (7, (61, .inr (.inr (.inr (.inr (va_up f25 i24_1.toNatClampNeg (some y1))))))))) 21 = .inl (7, (61, .inr (.inr (.inr (.inr (va_up f25 i24_1.toNatClampNeg (some y1))))))) := up_eq
      refine w_mv (pc1 := 23) (st1 := [.ref 20]) rfl rfl rfl ?_
      refine w_mv (pc1 := 24) (st1 := [.ref 20, .ref 20]) rfl rfl rfl ?_
      refine cw_gf (v := .int i24_1) (pc1 := 27) rfl (by omega) (by omega) g38 rfl rfl ?_
      refine w_mv (pc1 := 28) (st1 := [.int 1, .int i24_1, .ref 20]) rfl rfl rfl ?_
      refine w_mv (pc1 := 29) (st1 := [.int (i24_1 + 1), .ref 20]) rfl rfl rfl ?_
      refine cw_pf (c1 := .inr (.inl (6, [.ref 21, .int (i24_1 + 1)]))) (pc1 := 32) rfl (by omega) (by omega) g38 rfl rfl rfl rfl ?_
      have g41 : (va_up (va_up G 21 (.inl (7, (61, .inr (.inr (.inr (.inr (va_up f25 i24_1.toNatClampNeg (some y1))))))))) 20 (.inr (.inl (6, [.ref 21, .int (i24_1 + 1)])))) 9 = .inr (.inl (2, [.ref 10, .ref 17, .ref 18, .ref 20, .ref 22, .int i23_5, .int i23_6, .int i23_7])) := (va_ne (ne_ob g37 g38 (by decide))).trans g37
      have g42 : (va_up (va_up G 21 (.inl (7, (61, .inr (.inr (.inr (.inr (va_up f25 i24_1.toNatClampNeg (some y1))))))))) 20 (.inr (.inl (6, [.ref 21, .int (i24_1 + 1)])))) y1 = .inr (.inl (11, [.int i36_0, .int i36_1, va_rf o36_2, va_rf o36_3, va_rf o36_4, .ref (y1 + 1), .int i36_6])) := (va_ne (ne_ob g39 g38 (by decide))).trans g39
      have g43 : (va_up (va_up G 21 (.inl (7, (61, .inr (.inr (.inr (.inr (va_up f25 i24_1.toNatClampNeg (some y1))))))))) 20 (.inr (.inl (6, [.ref 21, .int (i24_1 + 1)])))) 21 = .inl (7, (61, .inr (.inr (.inr (.inr (va_up f25 i24_1.toNatClampNeg (some y1))))))) := (va_ne (ne_ao g40 g38)).trans g40
      have g44 : (va_up (va_up G 21 (.inl (7, (61, .inr (.inr (.inr (.inr (va_up f25 i24_1.toNatClampNeg (some y1))))))))) 20 (.inr (.inl (6, [.ref 21, .int (i24_1 + 1)])))) 20 = .inr (.inl (6, [.ref 21, .int (i24_1 + 1)])) := up_eq
      refine w_vret (pc1 := 32) rfl rfl rfl ?_
      refine w_mv (pc1 := 33) (st1 := [.int p2]) rfl rfl rfl ?_
      refine w_mv (pc1 := 34) (st1 := [.int 1, .int p2]) rfl rfl rfl ?_
      by_cases h45 : p2.toInt = 1
      ·
        replace hh := hh.2 h45
        refine w_ine_F (pc1 := 37) rfl (by decide) rfl (show p2.toInt = 1 from h45) ?_
        refine w_mv (pc1 := 38) (st1 := [.ref 9]) rfl rfl rfl ?_
        refine w_mv (pc1 := 39) (st1 := [.int 2, .ref 9]) rfl rfl rfl ?_
        refine cw_pf (c1 := .inr (.inl (2, [.ref 10, .ref 17, .ref 18, .ref 20, .ref 22, .int 2, .int i23_6, .int i23_7]))) (pc1 := 42) rfl (by omega) (by omega) g41 rfl rfl rfl rfl ?_
        have g46 : (va_up (va_up (va_up G 21 (.inl (7, (61, .inr (.inr (.inr (.inr (va_up f25 i24_1.toNatClampNeg (some y1))))))))) 20 (.inr (.inl (6, [.ref 21, .int (i24_1 + 1)])))) 9 (.inr (.inl (2, [.ref 10, .ref 17, .ref 18, .ref 20, .ref 22, .int 2, .int i23_6, .int i23_7])))) y1 = .inr (.inl (11, [.int i36_0, .int i36_1, va_rf o36_2, va_rf o36_3, va_rf o36_4, .ref (y1 + 1), .int i36_6])) := (va_ne (ne_ob g42 g41 (by decide))).trans g42
        have g47 : (va_up (va_up (va_up G 21 (.inl (7, (61, .inr (.inr (.inr (.inr (va_up f25 i24_1.toNatClampNeg (some y1))))))))) 20 (.inr (.inl (6, [.ref 21, .int (i24_1 + 1)])))) 9 (.inr (.inl (2, [.ref 10, .ref 17, .ref 18, .ref 20, .ref 22, .int 2, .int i23_6, .int i23_7])))) 21 = .inl (7, (61, .inr (.inr (.inr (.inr (va_up f25 i24_1.toNatClampNeg (some y1))))))) := (va_ne (ne_ao g43 g41)).trans g43
        have g48 : (va_up (va_up (va_up G 21 (.inl (7, (61, .inr (.inr (.inr (.inr (va_up f25 i24_1.toNatClampNeg (some y1))))))))) 20 (.inr (.inl (6, [.ref 21, .int (i24_1 + 1)])))) 9 (.inr (.inl (2, [.ref 10, .ref 17, .ref 18, .ref 20, .ref 22, .int 2, .int i23_6, .int i23_7])))) 20 = .inr (.inl (6, [.ref 21, .int (i24_1 + 1)])) := (va_ne (ne_ob g44 g41 (by decide))).trans g44
        have g49 : (va_up (va_up (va_up G 21 (.inl (7, (61, .inr (.inr (.inr (.inr (va_up f25 i24_1.toNatClampNeg (some y1))))))))) 20 (.inr (.inl (6, [.ref 21, .int (i24_1 + 1)])))) 9 (.inr (.inl (2, [.ref 10, .ref 17, .ref 18, .ref 20, .ref 22, .int 2, .int i23_6, .int i23_7])))) 9 = .inr (.inl (2, [.ref 10, .ref 17, .ref 18, .ref 20, .ref 22, .int 2, .int i23_6, .int i23_7])) := up_eq
        refine w_mv (pc1 := 55) (st1 := []) rfl rfl rfl ?_
        refine sx_wp.stop rfl rfl rfl ?_
        exact c_acc (hP _ _ _ _ _ hh) (by omega) (by omega)
      ·
        replace hh := hh.1 h45
        refine w_ine_T (pc1 := 45) rfl rfl (show p2.toInt ≠ 1 from h45) ?_
        refine w_mv (pc1 := 46) (st1 := [.int p2]) rfl rfl rfl ?_
        refine w_mv (pc1 := 47) (st1 := [.int 3, .int p2]) rfl rfl rfl ?_
        by_cases h50 : p2.toInt = 3
        ·
          replace hh := hh.2 h50
          refine w_ine_F (pc1 := 50) rfl (by decide) rfl (show p2.toInt = 3 from h50) ?_
          refine w_mv (pc1 := 51) (st1 := [.ref 9]) rfl rfl rfl ?_
          refine w_mv (pc1 := 52) (st1 := [.int 3, .ref 9]) rfl rfl rfl ?_
          refine cw_pf (c1 := .inr (.inl (2, [.ref 10, .ref 17, .ref 18, .ref 20, .ref 22, .int 3, .int i23_6, .int i23_7]))) (pc1 := 55) rfl (by omega) (by omega) g41 rfl rfl rfl rfl ?_
          have g51 : (va_up (va_up (va_up G 21 (.inl (7, (61, .inr (.inr (.inr (.inr (va_up f25 i24_1.toNatClampNeg (some y1))))))))) 20 (.inr (.inl (6, [.ref 21, .int (i24_1 + 1)])))) 9 (.inr (.inl (2, [.ref 10, .ref 17, .ref 18, .ref 20, .ref 22, .int 3, .int i23_6, .int i23_7])))) y1 = .inr (.inl (11, [.int i36_0, .int i36_1, va_rf o36_2, va_rf o36_3, va_rf o36_4, .ref (y1 + 1), .int i36_6])) := (va_ne (ne_ob g42 g41 (by decide))).trans g42
          have g52 : (va_up (va_up (va_up G 21 (.inl (7, (61, .inr (.inr (.inr (.inr (va_up f25 i24_1.toNatClampNeg (some y1))))))))) 20 (.inr (.inl (6, [.ref 21, .int (i24_1 + 1)])))) 9 (.inr (.inl (2, [.ref 10, .ref 17, .ref 18, .ref 20, .ref 22, .int 3, .int i23_6, .int i23_7])))) 21 = .inl (7, (61, .inr (.inr (.inr (.inr (va_up f25 i24_1.toNatClampNeg (some y1))))))) := (va_ne (ne_ao g43 g41)).trans g43
          have g53 : (va_up (va_up (va_up G 21 (.inl (7, (61, .inr (.inr (.inr (.inr (va_up f25 i24_1.toNatClampNeg (some y1))))))))) 20 (.inr (.inl (6, [.ref 21, .int (i24_1 + 1)])))) 9 (.inr (.inl (2, [.ref 10, .ref 17, .ref 18, .ref 20, .ref 22, .int 3, .int i23_6, .int i23_7])))) 20 = .inr (.inl (6, [.ref 21, .int (i24_1 + 1)])) := (va_ne (ne_ob g44 g41 (by decide))).trans g44
          have g54 : (va_up (va_up (va_up G 21 (.inl (7, (61, .inr (.inr (.inr (.inr (va_up f25 i24_1.toNatClampNeg (some y1))))))))) 20 (.inr (.inl (6, [.ref 21, .int (i24_1 + 1)])))) 9 (.inr (.inl (2, [.ref 10, .ref 17, .ref 18, .ref 20, .ref 22, .int 3, .int i23_6, .int i23_7])))) 9 = .inr (.inl (2, [.ref 10, .ref 17, .ref 18, .ref 20, .ref 22, .int 3, .int i23_6, .int i23_7])) := up_eq
          refine sx_wp.stop rfl rfl rfl ?_
          exact c_acc (hP _ _ _ _ _ hh) (by omega) (by omega)
        ·
          replace hh := hh.1 h50
          refine w_ine_T (pc1 := 55) rfl rfl (show p2.toInt ≠ 3 from h50) ?_
          refine sx_wp.stop rfl rfl rfl ?_
          exact c_acc (hP _ _ _ _ _ hh) (by omega) (by omega)
set_option maxRecDepth 20000 in
set_option maxHeartbeats 4000000 in
theorem k_93_0 {y1 : Nat} {y2 : Nat} {N : Nat} {G : Nat → sx_C} {K : Option Value ⊕ Nat → Nat → (Nat → sx_C) → Nat → Nat → Prop} (hh : 9 < N ∧ ∃ (i1_5 : Int32) (i1_6 : Int32) (i1_7 : Int32), G 9 = .inr (.inl (2, [.ref 10, .ref 17, .ref 18, .ref 20, .ref 22, .int i1_5, .int i1_6, .int i1_7])) ∧ 10 < N ∧ ∃ (i2_3 : Int32) (o2_4 : Option Nat), G 10 = .inr (.inl (3, [.ref 11, .ref 13, .ref 16, .int i2_3, va_rf o2_4])) ∧ 13 < N ∧ ∃ (i3_2 : Int32) (i3_3 : Int32) (o3_4 : Option Nat) (o3_5 : Option Nat), G 13 = .inr (.inl (5, [.ref 14, .ref 15, .int i3_2, .int i3_3, va_rf o3_4, va_rf o3_5])) ∧ 14 < N ∧ ∃ (f10 : Nat → Option Nat), (va_up G 13 (.inr (.inl (5, [.ref 14, .ref 15, .int i3_2, .int i3_3, .ref y1, .ref y2])))) 14 = .inl (6, (121, .inr (.inr (.inr (.inr f10))))) ∧ 0 ≤ (0 : Int32).toInt ∧ (0 : Int32).toInt < (121 : Nat) ∧ 5 ≤ y1 ∧ y1 < N ∧ ∃ (i12_1 : Int32) (i12_2 : Int32) (i12_3 : Int32) (o12_4 : Option Nat), (va_up G 13 (.inr (.inl (5, [.ref 14, .ref 15, .int i3_2, .int i3_3, .ref y1, .ref y2])))) y1 = .inr (.inl (10, [.ref (y1 + 1), .int i12_1, .int i12_2, .int i12_3, va_rf o12_4])) ∧ 15 < N ∧ ∃ (f18 : Nat → Option Nat), (va_up (va_up G 13 (.inr (.inl (5, [.ref 14, .ref 15, .int i3_2, .int i3_3, .ref y1, .ref y2])))) 14 (.inl (6, (121, .inr (.inr (.inr (.inr (va_up f10 (0 : Int32).toNatClampNeg (some y1))))))))) 15 = .inl (6, (121, .inr (.inr (.inr (.inr f18))))) ∧ 0 ≤ (0 : Int32).toInt ∧ (0 : Int32).toInt < (121 : Nat) ∧ 5 ≤ y2 ∧ y2 < N ∧ ∃ (i20_1 : Int32) (i20_2 : Int32) (i20_3 : Int32) (o20_4 : Option Nat), (va_up (va_up G 13 (.inr (.inl (5, [.ref 14, .ref 15, .int i3_2, .int i3_3, .ref y1, .ref y2])))) 14 (.inl (6, (121, .inr (.inr (.inr (.inr (va_up f10 (0 : Int32).toNatClampNeg (some y1))))))))) y2 = .inr (.inl (10, [.ref (y2 + 1), .int i20_1, .int i20_2, .int i20_3, va_rf o20_4])) ∧ cT (2) sM_77 0 [(0, .ref 13)] [] (N) (va_up (va_up (va_up (va_up G 13 (.inr (.inl (5, [.ref 14, .ref 15, .int i3_2, .int i3_3, .ref y1, .ref y2])))) 14 (.inl (6, (121, .inr (.inr (.inr (.inr (va_up f10 (0 : Int32).toNatClampNeg (some y1))))))))) 15 (.inl (6, (121, .inr (.inr (.inr (.inr (va_up f18 (0 : Int32).toNatClampNeg (some y2))))))))) 13 (.inr (.inl (5, [.ref 14, .ref 15, .int 1, .int 0, .ref y1, .ref y2])))) (fun r42 N42 G42 kc42 ks42 => ∃ v42 : Int32, r42 = .inl (some (.int v42)) ∧ cT (5) sM_93 23 [(0, .ref 9), (1, .ref y1), (2, .ref y2), (3, .ref 13), (4, .int v42), (5, .int 0)] [] (N42) G42 (fun r N1 G1 kc1 ks1 => K r N1 G1 (kc42 + kc1) (ks42 + ks1)))) : cT (5) sM_93 0 [(0, .ref 9), (1, .ref y1), (2, .ref y2)] [] N G K := by
  intro d dc ds P hP
  refine w_mv (pc1 := 1) (st1 := [.ref 9]) rfl rfl rfl ?_
  obtain ⟨b1b, i1_5, i1_6, i1_7, g1, hh⟩ := hh
  refine cw_gf (v := .ref 10) (pc1 := 4) rfl (by omega) (by omega) g1 rfl rfl ?_
  obtain ⟨b2b, i2_3, o2_4, g2, hh⟩ := hh
  refine cw_gf (v := .ref 13) (pc1 := 7) rfl (by omega) (by omega) g2 rfl rfl ?_
  refine w_mv (pc1 := 8) (lv1 := [(3, .ref 13), (0, .ref 9), (1, .ref y1), (2, .ref y2)]) (st1 := []) rfl rfl rfl ?_
  refine w_mv (pc1 := 9) (st1 := [.ref 13]) rfl rfl rfl ?_
  refine w_mv (pc1 := 10) (st1 := [.ref y1, .ref 13]) rfl rfl rfl ?_
  refine w_mv (pc1 := 11) (st1 := [.ref y2, .ref y1, .ref 13]) rfl rfl rfl ?_
  obtain ⟨b3b, i3_2, i3_3, o3_4, o3_5, g3, hh⟩ := hh
  refine w_call (M' := sM_76) (vals := [.ref 13, .ref y1, .ref y2]) (rest := []) (lv' := [(0, .ref 13), (1, .ref y1), (2, .ref y2)]) rfl rfl rfl rfl rfl rfl (cH_rcv (by omega) (by omega) g3) rfl rfl rfl ?_
  refine w_mv (pc1 := 1) (st1 := [.ref 13]) rfl rfl rfl ?_
  refine w_mv (pc1 := 2) (st1 := [.ref y1, .ref 13]) rfl rfl rfl ?_
  refine cw_pf (c1 := .inr (.inl (5, [.ref 14, .ref 15, .int i3_2, .int i3_3, .ref y1, va_rf o3_5]))) (pc1 := 5) rfl (by omega) (by omega) g3 rfl rfl rfl rfl ?_
  have g4 : (va_up G 13 (.inr (.inl (5, [.ref 14, .ref 15, .int i3_2, .int i3_3, .ref y1, va_rf o3_5])))) 9 = .inr (.inl (2, [.ref 10, .ref 17, .ref 18, .ref 20, .ref 22, .int i1_5, .int i1_6, .int i1_7])) := (va_ne (ne_ob g1 g3 (by decide))).trans g1
  have g5 : (va_up G 13 (.inr (.inl (5, [.ref 14, .ref 15, .int i3_2, .int i3_3, .ref y1, va_rf o3_5])))) 10 = .inr (.inl (3, [.ref 11, .ref 13, .ref 16, .int i2_3, va_rf o2_4])) := (va_ne (ne_ob g2 g3 (by decide))).trans g2
  have g6 : (va_up G 13 (.inr (.inl (5, [.ref 14, .ref 15, .int i3_2, .int i3_3, .ref y1, va_rf o3_5])))) 13 = .inr (.inl (5, [.ref 14, .ref 15, .int i3_2, .int i3_3, .ref y1, va_rf o3_5])) := up_eq
  refine w_mv (pc1 := 6) (st1 := [.ref 13]) rfl rfl rfl ?_
  refine w_mv (pc1 := 7) (st1 := [.ref y2, .ref 13]) rfl rfl rfl ?_
  refine cw_pf (c1 := .inr (.inl (5, [.ref 14, .ref 15, .int i3_2, .int i3_3, .ref y1, .ref y2]))) (pc1 := 10) rfl (by omega) (by omega) g6 rfl rfl rfl rfl ?_
  rw [va_uu]
  have g7 : (va_up G 13 (.inr (.inl (5, [.ref 14, .ref 15, .int i3_2, .int i3_3, .ref y1, .ref y2])))) 9 = .inr (.inl (2, [.ref 10, .ref 17, .ref 18, .ref 20, .ref 22, .int i1_5, .int i1_6, .int i1_7])) := (va_ne (ne_ob g4 g6 (by decide))).trans ((va_ne (ne_ob g4 g6 (by decide))).symm.trans g4)
  have g8 : (va_up G 13 (.inr (.inl (5, [.ref 14, .ref 15, .int i3_2, .int i3_3, .ref y1, .ref y2])))) 10 = .inr (.inl (3, [.ref 11, .ref 13, .ref 16, .int i2_3, va_rf o2_4])) := (va_ne (ne_ob g5 g6 (by decide))).trans ((va_ne (ne_ob g5 g6 (by decide))).symm.trans g5)
  have g9 : (va_up G 13 (.inr (.inl (5, [.ref 14, .ref 15, .int i3_2, .int i3_3, .ref y1, .ref y2])))) 13 = .inr (.inl (5, [.ref 14, .ref 15, .int i3_2, .int i3_3, .ref y1, .ref y2])) := up_eq
  refine w_mv (pc1 := 11) (st1 := [.ref 13]) rfl rfl rfl ?_
  refine cw_gf (v := .ref 14) (pc1 := 14) rfl (by omega) (by omega) g9 rfl rfl ?_
  refine w_mv (pc1 := 15) (st1 := [.int 0, .ref 14]) rfl rfl rfl ?_
  refine w_mv (pc1 := 16) (st1 := [.ref y1, .int 0, .ref 14]) rfl rfl rfl ?_
  obtain ⟨b10b, f10, g10, hh⟩ := hh
  obtain ⟨q11a, q11b, hh⟩ := hh
  obtain ⟨b12a, b12b, i12_1, i12_2, i12_3, o12_4, g12, hh⟩ := hh
  refine cw_as (pc1 := 17) rfl (by omega) (by omega) g10 (by omega) (by omega) g12 rfl q11a q11b rfl ?_
  have g13 : (va_up (va_up G 13 (.inr (.inl (5, [.ref 14, .ref 15, .int i3_2, .int i3_3, .ref y1, .ref y2])))) 14 (.inl (6, (121, .inr (.inr (.inr (.inr (va_up f10 (0 : Int32).toNatClampNeg (some y1))))))))) 9 = .inr (.inl (2, [.ref 10, .ref 17, .ref 18, .ref 20, .ref 22, .int i1_5, .int i1_6, .int i1_7])) := (va_ne (ne_oa g7 g10)).trans g7
  have g14 : (va_up (va_up G 13 (.inr (.inl (5, [.ref 14, .ref 15, .int i3_2, .int i3_3, .ref y1, .ref y2])))) 14 (.inl (6, (121, .inr (.inr (.inr (.inr (va_up f10 (0 : Int32).toNatClampNeg (some y1))))))))) 10 = .inr (.inl (3, [.ref 11, .ref 13, .ref 16, .int i2_3, va_rf o2_4])) := (va_ne (ne_oa g8 g10)).trans g8
  have g15 : (va_up (va_up G 13 (.inr (.inl (5, [.ref 14, .ref 15, .int i3_2, .int i3_3, .ref y1, .ref y2])))) 14 (.inl (6, (121, .inr (.inr (.inr (.inr (va_up f10 (0 : Int32).toNatClampNeg (some y1))))))))) 13 = .inr (.inl (5, [.ref 14, .ref 15, .int i3_2, .int i3_3, .ref y1, .ref y2])) := (va_ne (ne_oa g9 g10)).trans g9
  have g16 : (va_up (va_up G 13 (.inr (.inl (5, [.ref 14, .ref 15, .int i3_2, .int i3_3, .ref y1, .ref y2])))) 14 (.inl (6, (121, .inr (.inr (.inr (.inr (va_up f10 (0 : Int32).toNatClampNeg (some y1))))))))) y1 = .inr (.inl (10, [.ref (y1 + 1), .int i12_1, .int i12_2, .int i12_3, va_rf o12_4])) := (va_ne (ne_oa g12 g10)).trans g12
  have g17 : (va_up (va_up G 13 (.inr (.inl (5, [.ref 14, .ref 15, .int i3_2, .int i3_3, .ref y1, .ref y2])))) 14 (.inl (6, (121, .inr (.inr (.inr (.inr (va_up f10 (0 : Int32).toNatClampNeg (some y1))))))))) 14 = .inl (6, (121, .inr (.inr (.inr (.inr (va_up f10 (0 : Int32).toNatClampNeg (some y1))))))) := up_eq
  refine w_mv (pc1 := 18) (st1 := [.ref 13]) rfl rfl rfl ?_
  refine cw_gf (v := .ref 15) (pc1 := 21) rfl (by omega) (by omega) g15 rfl rfl ?_
  refine w_mv (pc1 := 22) (st1 := [.int 0, .ref 15]) rfl rfl rfl ?_
  refine w_mv (pc1 := 23) (st1 := [.ref y2, .int 0, .ref 15]) rfl rfl rfl ?_
  obtain ⟨b18b, f18, g18, hh⟩ := hh
  obtain ⟨q19a, q19b, hh⟩ := hh
  obtain ⟨b20a, b20b, i20_1, i20_2, i20_3, o20_4, g20, hh⟩ := hh
  refine cw_as (pc1 := 24) rfl (by omega) (by omega) g18 (by omega) (by omega) g20 rfl q19a q19b rfl ?_
  have g21 : (va_up (va_up (va_up G 13 (.inr (.inl (5, [.ref 14, .ref 15, .int i3_2, .int i3_3, .ref y1, .ref y2])))) 14 (.inl (6, (121, .inr (.inr (.inr (.inr (va_up f10 (0 : Int32).toNatClampNeg (some y1))))))))) 15 (.inl (6, (121, .inr (.inr (.inr (.inr (va_up f18 (0 : Int32).toNatClampNeg (some y2))))))))) 9 = .inr (.inl (2, [.ref 10, .ref 17, .ref 18, .ref 20, .ref 22, .int i1_5, .int i1_6, .int i1_7])) := (va_ne (ne_oa g13 g18)).trans g13
  have g22 : (va_up (va_up (va_up G 13 (.inr (.inl (5, [.ref 14, .ref 15, .int i3_2, .int i3_3, .ref y1, .ref y2])))) 14 (.inl (6, (121, .inr (.inr (.inr (.inr (va_up f10 (0 : Int32).toNatClampNeg (some y1))))))))) 15 (.inl (6, (121, .inr (.inr (.inr (.inr (va_up f18 (0 : Int32).toNatClampNeg (some y2))))))))) 10 = .inr (.inl (3, [.ref 11, .ref 13, .ref 16, .int i2_3, va_rf o2_4])) := (va_ne (ne_oa g14 g18)).trans g14
  have g23 : (va_up (va_up (va_up G 13 (.inr (.inl (5, [.ref 14, .ref 15, .int i3_2, .int i3_3, .ref y1, .ref y2])))) 14 (.inl (6, (121, .inr (.inr (.inr (.inr (va_up f10 (0 : Int32).toNatClampNeg (some y1))))))))) 15 (.inl (6, (121, .inr (.inr (.inr (.inr (va_up f18 (0 : Int32).toNatClampNeg (some y2))))))))) 13 = .inr (.inl (5, [.ref 14, .ref 15, .int i3_2, .int i3_3, .ref y1, .ref y2])) := (va_ne (ne_oa g15 g18)).trans g15
  have g24 : (va_up (va_up (va_up G 13 (.inr (.inl (5, [.ref 14, .ref 15, .int i3_2, .int i3_3, .ref y1, .ref y2])))) 14 (.inl (6, (121, .inr (.inr (.inr (.inr (va_up f10 (0 : Int32).toNatClampNeg (some y1))))))))) 15 (.inl (6, (121, .inr (.inr (.inr (.inr (va_up f18 (0 : Int32).toNatClampNeg (some y2))))))))) y1 = .inr (.inl (10, [.ref (y1 + 1), .int i12_1, .int i12_2, .int i12_3, va_rf o12_4])) := (va_ne (ne_oa g16 g18)).trans g16
  have g25 : (va_up (va_up (va_up G 13 (.inr (.inl (5, [.ref 14, .ref 15, .int i3_2, .int i3_3, .ref y1, .ref y2])))) 14 (.inl (6, (121, .inr (.inr (.inr (.inr (va_up f10 (0 : Int32).toNatClampNeg (some y1))))))))) 15 (.inl (6, (121, .inr (.inr (.inr (.inr (va_up f18 (0 : Int32).toNatClampNeg (some y2))))))))) 14 = .inl (6, (121, .inr (.inr (.inr (.inr (va_up f10 (0 : Int32).toNatClampNeg (some y1))))))) := (va_ne (by omega)).trans g17
  have g26 : (va_up (va_up (va_up G 13 (.inr (.inl (5, [.ref 14, .ref 15, .int i3_2, .int i3_3, .ref y1, .ref y2])))) 14 (.inl (6, (121, .inr (.inr (.inr (.inr (va_up f10 (0 : Int32).toNatClampNeg (some y1))))))))) 15 (.inl (6, (121, .inr (.inr (.inr (.inr (va_up f18 (0 : Int32).toNatClampNeg (some y2))))))))) y2 = .inr (.inl (10, [.ref (y2 + 1), .int i20_1, .int i20_2, .int i20_3, va_rf o20_4])) := (va_ne (ne_oa g20 g18)).trans g20
  have g27 : (va_up (va_up (va_up G 13 (.inr (.inl (5, [.ref 14, .ref 15, .int i3_2, .int i3_3, .ref y1, .ref y2])))) 14 (.inl (6, (121, .inr (.inr (.inr (.inr (va_up f10 (0 : Int32).toNatClampNeg (some y1))))))))) 15 (.inl (6, (121, .inr (.inr (.inr (.inr (va_up f18 (0 : Int32).toNatClampNeg (some y2))))))))) 15 = .inl (6, (121, .inr (.inr (.inr (.inr (va_up f18 (0 : Int32).toNatClampNeg (some y2))))))) := up_eq
  refine w_mv (pc1 := 25) (st1 := [.ref 13]) rfl rfl rfl ?_
  refine w_mv (pc1 := 26) (st1 := [.int 1, .ref 13]) rfl rfl rfl ?_
  refine cw_pf (c1 := .inr (.inl (5, [.ref 14, .ref 15, .int 1, .int i3_3, .ref y1, .ref y2]))) (pc1 := 29) rfl (by omega) (by omega) g23 rfl rfl rfl rfl ?_
  have g28 : (va_up (va_up (va_up (va_up G 13 (.inr (.inl (5, [.ref 14, .ref 15, .int i3_2, .int i3_3, .ref y1, .ref y2])))) 14 (.inl (6, (121, .inr (.inr (.inr (.inr (va_up f10 (0 : Int32).toNatClampNeg (some y1))))))))) 15 (.inl (6, (121, .inr (.inr (.inr (.inr (va_up f18 (0 : Int32).toNatClampNeg (some y2))))))))) 13 (.inr (.inl (5, [.ref 14, .ref 15, .int 1, .int i3_3, .ref y1, .ref y2])))) 9 = .inr (.inl (2, [.ref 10, .ref 17, .ref 18, .ref 20, .ref 22, .int i1_5, .int i1_6, .int i1_7])) := (va_ne (ne_ob g21 g23 (by decide))).trans g21
  have g29 : (va_up (va_up (va_up (va_up G 13 (.inr (.inl (5, [.ref 14, .ref 15, .int i3_2, .int i3_3, .ref y1, .ref y2])))) 14 (.inl (6, (121, .inr (.inr (.inr (.inr (va_up f10 (0 : Int32).toNatClampNeg (some y1))))))))) 15 (.inl (6, (121, .inr (.inr (.inr (.inr (va_up f18 (0 : Int32).toNatClampNeg (some y2))))))))) 13 (.inr (.inl (5, [.ref 14, .ref 15, .int 1, .int i3_3, .ref y1, .ref y2])))) 10 = .inr (.inl (3, [.ref 11, .ref 13, .ref 16, .int i2_3, va_rf o2_4])) := (va_ne (ne_ob g22 g23 (by decide))).trans g22
  have g30 : (va_up (va_up (va_up (va_up G 13 (.inr (.inl (5, [.ref 14, .ref 15, .int i3_2, .int i3_3, .ref y1, .ref y2])))) 14 (.inl (6, (121, .inr (.inr (.inr (.inr (va_up f10 (0 : Int32).toNatClampNeg (some y1))))))))) 15 (.inl (6, (121, .inr (.inr (.inr (.inr (va_up f18 (0 : Int32).toNatClampNeg (some y2))))))))) 13 (.inr (.inl (5, [.ref 14, .ref 15, .int 1, .int i3_3, .ref y1, .ref y2])))) y1 = .inr (.inl (10, [.ref (y1 + 1), .int i12_1, .int i12_2, .int i12_3, va_rf o12_4])) := (va_ne (ne_ob g24 g23 (by decide))).trans g24
  have g31 : (va_up (va_up (va_up (va_up G 13 (.inr (.inl (5, [.ref 14, .ref 15, .int i3_2, .int i3_3, .ref y1, .ref y2])))) 14 (.inl (6, (121, .inr (.inr (.inr (.inr (va_up f10 (0 : Int32).toNatClampNeg (some y1))))))))) 15 (.inl (6, (121, .inr (.inr (.inr (.inr (va_up f18 (0 : Int32).toNatClampNeg (some y2))))))))) 13 (.inr (.inl (5, [.ref 14, .ref 15, .int 1, .int i3_3, .ref y1, .ref y2])))) 14 = .inl (6, (121, .inr (.inr (.inr (.inr (va_up f10 (0 : Int32).toNatClampNeg (some y1))))))) := (va_ne (ne_ao g25 g23)).trans g25
  have g32 : (va_up (va_up (va_up (va_up G 13 (.inr (.inl (5, [.ref 14, .ref 15, .int i3_2, .int i3_3, .ref y1, .ref y2])))) 14 (.inl (6, (121, .inr (.inr (.inr (.inr (va_up f10 (0 : Int32).toNatClampNeg (some y1))))))))) 15 (.inl (6, (121, .inr (.inr (.inr (.inr (va_up f18 (0 : Int32).toNatClampNeg (some y2))))))))) 13 (.inr (.inl (5, [.ref 14, .ref 15, .int 1, .int i3_3, .ref y1, .ref y2])))) y2 = .inr (.inl (10, [.ref (y2 + 1), .int i20_1, .int i20_2, .int i20_3, va_rf o20_4])) := (va_ne (ne_ob g26 g23 (by decide))).trans g26
  have g33 : (va_up (va_up (va_up (va_up G 13 (.inr (.inl (5, [.ref 14, .ref 15, .int i3_2, .int i3_3, .ref y1, .ref y2])))) 14 (.inl (6, (121, .inr (.inr (.inr (.inr (va_up f10 (0 : Int32).toNatClampNeg (some y1))))))))) 15 (.inl (6, (121, .inr (.inr (.inr (.inr (va_up f18 (0 : Int32).toNatClampNeg (some y2))))))))) 13 (.inr (.inl (5, [.ref 14, .ref 15, .int 1, .int i3_3, .ref y1, .ref y2])))) 15 = .inl (6, (121, .inr (.inr (.inr (.inr (va_up f18 (0 : Int32).toNatClampNeg (some y2))))))) := (va_ne (ne_ao g27 g23)).trans g27
  have g34 : (va_up (va_up (va_up (va_up G 13 (.inr (.inl (5, [.ref 14, .ref 15, .int i3_2, .int i3_3, .ref y1, .ref y2])))) 14 (.inl (6, (121, .inr (.inr (.inr (.inr (va_up f10 (0 : Int32).toNatClampNeg (some y1))))))))) 15 (.inl (6, (121, .inr (.inr (.inr (.inr (va_up f18 (0 : Int32).toNatClampNeg (some y2))))))))) 13 (.inr (.inl (5, [.ref 14, .ref 15, .int 1, .int i3_3, .ref y1, .ref y2])))) 13 = .inr (.inl (5, [.ref 14, .ref 15, .int 1, .int i3_3, .ref y1, .ref y2])) := up_eq
  refine w_mv (pc1 := 30) (st1 := [.ref 13]) rfl rfl rfl ?_
  refine w_mv (pc1 := 31) (st1 := [.int 0, .ref 13]) rfl rfl rfl ?_
  refine cw_pf (c1 := .inr (.inl (5, [.ref 14, .ref 15, .int 1, .int 0, .ref y1, .ref y2]))) (pc1 := 34) rfl (by omega) (by omega) g34 rfl rfl rfl rfl ?_
  rw [va_uu]
  have g35 : (va_up (va_up (va_up (va_up G 13 (.inr (.inl (5, [.ref 14, .ref 15, .int i3_2, .int i3_3, .ref y1, .ref y2])))) 14 (.inl (6, (121, .inr (.inr (.inr (.inr (va_up f10 (0 : Int32).toNatClampNeg (some y1))))))))) 15 (.inl (6, (121, .inr (.inr (.inr (.inr (va_up f18 (0 : Int32).toNatClampNeg (some y2))))))))) 13 (.inr (.inl (5, [.ref 14, .ref 15, .int 1, .int 0, .ref y1, .ref y2])))) 9 = .inr (.inl (2, [.ref 10, .ref 17, .ref 18, .ref 20, .ref 22, .int i1_5, .int i1_6, .int i1_7])) := (va_ne (ne_ob g28 g34 (by decide))).trans ((va_ne (ne_ob g28 g34 (by decide))).symm.trans g28)
  have g36 : (va_up (va_up (va_up (va_up G 13 (.inr (.inl (5, [.ref 14, .ref 15, .int i3_2, .int i3_3, .ref y1, .ref y2])))) 14 (.inl (6, (121, .inr (.inr (.inr (.inr (va_up f10 (0 : Int32).toNatClampNeg (some y1))))))))) 15 (.inl (6, (121, .inr (.inr (.inr (.inr (va_up f18 (0 : Int32).toNatClampNeg (some y2))))))))) 13 (.inr (.inl (5, [.ref 14, .ref 15, .int 1, .int 0, .ref y1, .ref y2])))) 10 = .inr (.inl (3, [.ref 11, .ref 13, .ref 16, .int i2_3, va_rf o2_4])) := (va_ne (ne_ob g29 g34 (by decide))).trans ((va_ne (ne_ob g29 g34 (by decide))).symm.trans g29)
  have g37 : (va_up (va_up (va_up (va_up G 13 (.inr (.inl (5, [.ref 14, .ref 15, .int i3_2, .int i3_3, .ref y1, .ref y2])))) 14 (.inl (6, (121, .inr (.inr (.inr (.inr (va_up f10 (0 : Int32).toNatClampNeg (some y1))))))))) 15 (.inl (6, (121, .inr (.inr (.inr (.inr (va_up f18 (0 : Int32).toNatClampNeg (some y2))))))))) 13 (.inr (.inl (5, [.ref 14, .ref 15, .int 1, .int 0, .ref y1, .ref y2])))) y1 = .inr (.inl (10, [.ref (y1 + 1), .int i12_1, .int i12_2, .int i12_3, va_rf o12_4])) := (va_ne (ne_ob g30 g34 (by decide))).trans ((va_ne (ne_ob g30 g34 (by decide))).symm.trans g30)
  have g38 : (va_up (va_up (va_up (va_up G 13 (.inr (.inl (5, [.ref 14, .ref 15, .int i3_2, .int i3_3, .ref y1, .ref y2])))) 14 (.inl (6, (121, .inr (.inr (.inr (.inr (va_up f10 (0 : Int32).toNatClampNeg (some y1))))))))) 15 (.inl (6, (121, .inr (.inr (.inr (.inr (va_up f18 (0 : Int32).toNatClampNeg (some y2))))))))) 13 (.inr (.inl (5, [.ref 14, .ref 15, .int 1, .int 0, .ref y1, .ref y2])))) 14 = .inl (6, (121, .inr (.inr (.inr (.inr (va_up f10 (0 : Int32).toNatClampNeg (some y1))))))) := (va_ne (ne_ao g31 g34)).trans ((va_ne (ne_ao g31 g34)).symm.trans g31)
  have g39 : (va_up (va_up (va_up (va_up G 13 (.inr (.inl (5, [.ref 14, .ref 15, .int i3_2, .int i3_3, .ref y1, .ref y2])))) 14 (.inl (6, (121, .inr (.inr (.inr (.inr (va_up f10 (0 : Int32).toNatClampNeg (some y1))))))))) 15 (.inl (6, (121, .inr (.inr (.inr (.inr (va_up f18 (0 : Int32).toNatClampNeg (some y2))))))))) 13 (.inr (.inl (5, [.ref 14, .ref 15, .int 1, .int 0, .ref y1, .ref y2])))) y2 = .inr (.inl (10, [.ref (y2 + 1), .int i20_1, .int i20_2, .int i20_3, va_rf o20_4])) := (va_ne (ne_ob g32 g34 (by decide))).trans ((va_ne (ne_ob g32 g34 (by decide))).symm.trans g32)
  have g40 : (va_up (va_up (va_up (va_up G 13 (.inr (.inl (5, [.ref 14, .ref 15, .int i3_2, .int i3_3, .ref y1, .ref y2])))) 14 (.inl (6, (121, .inr (.inr (.inr (.inr (va_up f10 (0 : Int32).toNatClampNeg (some y1))))))))) 15 (.inl (6, (121, .inr (.inr (.inr (.inr (va_up f18 (0 : Int32).toNatClampNeg (some y2))))))))) 13 (.inr (.inl (5, [.ref 14, .ref 15, .int 1, .int 0, .ref y1, .ref y2])))) 15 = .inl (6, (121, .inr (.inr (.inr (.inr (va_up f18 (0 : Int32).toNatClampNeg (some y2))))))) := (va_ne (ne_ao g33 g34)).trans ((va_ne (ne_ao g33 g34)).symm.trans g33)
  have g41 : (va_up (va_up (va_up (va_up G 13 (.inr (.inl (5, [.ref 14, .ref 15, .int i3_2, .int i3_3, .ref y1, .ref y2])))) 14 (.inl (6, (121, .inr (.inr (.inr (.inr (va_up f10 (0 : Int32).toNatClampNeg (some y1))))))))) 15 (.inl (6, (121, .inr (.inr (.inr (.inr (va_up f18 (0 : Int32).toNatClampNeg (some y2))))))))) 13 (.inr (.inl (5, [.ref 14, .ref 15, .int 1, .int 0, .ref y1, .ref y2])))) 13 = .inr (.inl (5, [.ref 14, .ref 15, .int 1, .int 0, .ref y1, .ref y2])) := up_eq
  refine w_vret (pc1 := 14) rfl rfl rfl ?_
  refine w_mv (pc1 := 15) (st1 := [.ref 13]) rfl rfl rfl ?_
  refine w_call (M' := sM_77) (vals := [.ref 13]) (rest := []) (lv' := [(0, .ref 13)]) rfl rfl rfl rfl rfl rfl (cH_rcv (by omega) (by omega) g41) rfl rfl rfl ?_
  refine hh _ _ _ _ (fun r42 N42 G42 kc42 ks42 hh => ?_)
  obtain ⟨v42, er42, hh⟩ := hh
  subst er42
  refine w_ki (pc1 := 18) rfl ?_
  refine w_mv (pc1 := 20) (lv1 := [(4, .int v42), (3, .ref 13), (0, .ref 9), (1, .ref y1), (2, .ref y2)]) (st1 := []) rfl rfl rfl ?_
  refine w_mv (pc1 := 21) (st1 := [.int 0]) rfl rfl rfl ?_
  refine w_mv (pc1 := 23) (lv1 := [(5, .int 0), (4, .int v42), (3, .ref 13), (0, .ref 9), (1, .ref y1), (2, .ref y2)]) (st1 := []) rfl rfl rfl ?_
  refine w_wk (l1 := [(0, .ref 9), (1, .ref y1), (2, .ref y2), (3, .ref 13), (4, .int v42), (5, .int 0)]) rfl ⟨rfl, rfl, rfl, rfl, rfl, rfl, trivial⟩ ?_
  refine hh d _ _ P (fun r N1 G1 kc1 ks1 q => ?_)
  exact c_acc (hP r N1 G1 _ _ q) (by omega) (by omega)
set_option maxRecDepth 20000 in
set_option maxHeartbeats 4000000 in
theorem k_93_23 {y1 : Nat} {y2 : Nat} {p4 : Int32} {p5 : Int32} {N : Nat} {G : Nat → sx_C} {K : Option Value ⊕ Nat → Nat → (Nat → sx_C) → Nat → Nat → Prop} (hh : ((60 ≤ p5.toInt → K (.inl (some (.int p4))) (N) G (0) (0)) ∧ (p5.toInt < 60 → ((p4.toInt ≠ 2 → K (.inl (some (.int p4))) (N) G (0) (0)) ∧ (p4.toInt = 2 → 13 < N ∧ ∃ (i3_2 : Int32) (i3_3 : Int32) (o3_4 : Option Nat) (o3_5 : Option Nat), G 13 = .inr (.inl (5, [.ref 14, .ref 15, .int i3_2, .int i3_3, va_rf o3_4, va_rf o3_5])) ∧ ((o3_4 = none → ((o3_5 = none → 9 < N ∧ ∃ (i6_5 : Int32) (i6_6 : Int32) (i6_7 : Int32), G 9 = .inr (.inl (2, [.ref 10, .ref 17, .ref 18, .ref 20, .ref 22, .int i6_5, .int i6_6, .int i6_7])) ∧ cT (4) sM_96 0 [(0, .ref 9), (1, .null), (2, .null)] [] (N) G (fun r7 N7 G7 kc7 ks7 => r7 = .inl none ∧ 13 < N7 ∧ ∃ (i8_2 : Int32) (i8_3 : Int32) (o8_4 : Option Nat) (o8_5 : Option Nat), G7 13 = .inr (.inl (5, [.ref 14, .ref 15, .int i8_2, .int i8_3, va_rf o8_4, va_rf o8_5])) ∧ cT (2) sM_77 0 [(0, .ref 13)] [] (N7) G7 (fun r9 N9 G9 kc9 ks9 => ∃ v9 : Int32, r9 = .inl (some (.int v9)) ∧ cT (5) sM_93 23 [(0, .ref 9), (1, .ref y1), (2, .ref y2), (3, .ref 13), (4, .int v9), (5, .int (p5 + 1))] [] (N9) G9 (fun r N1 G1 kc1 ks1 => K r N1 G1 (kc7 + kc9 + kc1) (ks7 + ks9 + ks1))))) ∧ (∀ x5, o3_5 = some x5 → 9 < N ∧ ∃ (i10_5 : Int32) (i10_6 : Int32) (i10_7 : Int32), G 9 = .inr (.inl (2, [.ref 10, .ref 17, .ref 18, .ref 20, .ref 22, .int i10_5, .int i10_6, .int i10_7])) ∧ cT (4) sM_96 0 [(0, .ref 9), (1, .null), (2, .ref x5)] [] (N) G (fun r11 N11 G11 kc11 ks11 => r11 = .inl none ∧ 13 < N11 ∧ ∃ (i12_2 : Int32) (i12_3 : Int32) (o12_4 : Option Nat) (o12_5 : Option Nat), G11 13 = .inr (.inl (5, [.ref 14, .ref 15, .int i12_2, .int i12_3, va_rf o12_4, va_rf o12_5])) ∧ cT (2) sM_77 0 [(0, .ref 13)] [] (N11) G11 (fun r13 N13 G13 kc13 ks13 => ∃ v13 : Int32, r13 = .inl (some (.int v13)) ∧ cT (5) sM_93 23 [(0, .ref 9), (1, .ref y1), (2, .ref y2), (3, .ref 13), (4, .int v13), (5, .int (p5 + 1))] [] (N13) G13 (fun r N1 G1 kc1 ks1 => K r N1 G1 (kc11 + kc13 + kc1) (ks11 + ks13 + ks1))))))) ∧ (∀ x4, o3_4 = some x4 → ((o3_5 = none → 9 < N ∧ ∃ (i15_5 : Int32) (i15_6 : Int32) (i15_7 : Int32), G 9 = .inr (.inl (2, [.ref 10, .ref 17, .ref 18, .ref 20, .ref 22, .int i15_5, .int i15_6, .int i15_7])) ∧ cT (4) sM_96 0 [(0, .ref 9), (1, .ref x4), (2, .null)] [] (N) G (fun r16 N16 G16 kc16 ks16 => r16 = .inl none ∧ 13 < N16 ∧ ∃ (i17_2 : Int32) (i17_3 : Int32) (o17_4 : Option Nat) (o17_5 : Option Nat), G16 13 = .inr (.inl (5, [.ref 14, .ref 15, .int i17_2, .int i17_3, va_rf o17_4, va_rf o17_5])) ∧ cT (2) sM_77 0 [(0, .ref 13)] [] (N16) G16 (fun r18 N18 G18 kc18 ks18 => ∃ v18 : Int32, r18 = .inl (some (.int v18)) ∧ cT (5) sM_93 23 [(0, .ref 9), (1, .ref y1), (2, .ref y2), (3, .ref 13), (4, .int v18), (5, .int (p5 + 1))] [] (N18) G18 (fun r N1 G1 kc1 ks1 => K r N1 G1 (kc16 + kc18 + kc1) (ks16 + ks18 + ks1))))) ∧ (∀ x14, o3_5 = some x14 → 9 < N ∧ ∃ (i19_5 : Int32) (i19_6 : Int32) (i19_7 : Int32), G 9 = .inr (.inl (2, [.ref 10, .ref 17, .ref 18, .ref 20, .ref 22, .int i19_5, .int i19_6, .int i19_7])) ∧ cT (4) sM_96 0 [(0, .ref 9), (1, .ref x4), (2, .ref x14)] [] (N) G (fun r20 N20 G20 kc20 ks20 => r20 = .inl none ∧ 13 < N20 ∧ ∃ (i21_2 : Int32) (i21_3 : Int32) (o21_4 : Option Nat) (o21_5 : Option Nat), G20 13 = .inr (.inl (5, [.ref 14, .ref 15, .int i21_2, .int i21_3, va_rf o21_4, va_rf o21_5])) ∧ cT (2) sM_77 0 [(0, .ref 13)] [] (N20) G20 (fun r22 N22 G22 kc22 ks22 => ∃ v22 : Int32, r22 = .inl (some (.int v22)) ∧ cT (5) sM_93 23 [(0, .ref 9), (1, .ref y1), (2, .ref y2), (3, .ref 13), (4, .int v22), (5, .int (p5 + 1))] [] (N22) G22 (fun r N1 G1 kc1 ks1 => K r N1 G1 (kc20 + kc22 + kc1) (ks20 + ks22 + ks1))))))))))))) : cT (5) sM_93 23 [(0, .ref 9), (1, .ref y1), (2, .ref y2), (3, .ref 13), (4, .int p4), (5, .int p5)] [] N G K := by
  intro d dc ds P hP
  refine w_mv (pc1 := 25) (st1 := [.int p5]) rfl rfl rfl ?_
  refine w_mv (pc1 := 27) (st1 := [.int 60, .int p5]) rfl rfl rfl ?_
  by_cases h1 : 60 ≤ p5.toInt
  ·
    replace hh := hh.1 h1
    refine w_ige_T (pc1 := 60) rfl rfl (show 60 ≤ p5.toInt from h1) ?_
    refine w_mv (pc1 := 62) (st1 := [.int p4]) rfl rfl rfl ?_
    refine sx_wp.stop rfl rfl rfl ?_
    exact c_acc (hP _ _ _ _ _ hh) (by omega) (by omega)
  ·
    replace hh := hh.2 (Int.not_le.mp h1)
    refine w_ige_F (pc1 := 30) rfl (by decide) rfl (show p5.toInt < 60 from (Int.not_le.mp h1)) ?_
    refine w_mv (pc1 := 32) (st1 := [.int p4]) rfl rfl rfl ?_
    refine w_mv (pc1 := 33) (st1 := [.int 2, .int p4]) rfl rfl rfl ?_
    by_cases h2 : p4.toInt = 2
    ·
      replace hh := hh.2 h2
      refine w_ine_F (pc1 := 36) rfl (by decide) rfl (show p4.toInt = 2 from h2) ?_
      refine w_mv (pc1 := 37) (st1 := [.ref 9]) rfl rfl rfl ?_
      refine w_mv (pc1 := 38) (st1 := [.ref 13, .ref 9]) rfl rfl rfl ?_
      obtain ⟨b3b, i3_2, i3_3, o3_4, o3_5, g3, hh⟩ := hh
      refine w_call (M' := sM_94) (vals := [.ref 13]) (rest := [.ref 9]) (lv' := [(0, .ref 13)]) rfl rfl rfl rfl rfl rfl (cH_rcv (by omega) (by omega) g3) rfl rfl rfl ?_
      refine w_mv (pc1 := 1) (st1 := [.ref 13]) rfl rfl rfl ?_
      refine cw_gf (v := va_rf o3_4) (pc1 := 4) rfl (by omega) (by omega) g3 rfl rfl ?_
      cases o3_4 with
      | none =>
        replace hh := hh.1 rfl
        refine w_nret (pc1 := 41) rfl rfl rfl rfl ?_
        refine w_mv (pc1 := 42) (st1 := [.ref 13, .null, .ref 9]) rfl rfl rfl ?_
        refine w_call (M' := sM_95) (vals := [.ref 13]) (rest := [.null, .ref 9]) (lv' := [(0, .ref 13)]) rfl rfl rfl rfl rfl rfl (cH_rcv (by omega) (by omega) g3) rfl rfl rfl ?_
        refine w_mv (pc1 := 1) (st1 := [.ref 13]) rfl rfl rfl ?_
        refine cw_gf (v := va_rf o3_5) (pc1 := 4) rfl (by omega) (by omega) g3 rfl rfl ?_
        cases o3_5 with
        | none =>
          replace hh := hh.1 rfl
          refine w_nret (pc1 := 45) rfl rfl rfl rfl ?_
          obtain ⟨b6b, i6_5, i6_6, i6_7, g6, hh⟩ := hh
          refine w_call (M' := sM_96) (vals := [.ref 9, .null, .null]) (rest := []) (lv' := [(0, .ref 9), (1, .null), (2, .null)]) rfl rfl rfl rfl rfl rfl (cH_rcv (by omega) (by omega) g6) rfl rfl rfl ?_
          refine hh _ _ _ _ (fun r7 N7 G7 kc7 ks7 hh => ?_)
          obtain ⟨er7, hh⟩ := hh
          subst er7
          refine w_kv (pc1 := 48) rfl ?_
          refine w_mv (pc1 := 49) (st1 := [.ref 13]) rfl rfl rfl ?_
          obtain ⟨b8b, i8_2, i8_3, o8_4, o8_5, g8, hh⟩ := hh
          refine w_call (M' := sM_77) (vals := [.ref 13]) (rest := []) (lv' := [(0, .ref 13)]) rfl rfl rfl rfl rfl rfl (cH_rcv (by omega) (by omega) g8) rfl rfl rfl ?_
          refine hh _ _ _ _ (fun r9 N9 G9 kc9 ks9 hh => ?_)
          obtain ⟨v9, er9, hh⟩ := hh
          subst er9
          refine w_ki (pc1 := 52) rfl ?_
          refine w_mv (pc1 := 54) (lv1 := [(4, .int v9), (0, .ref 9), (1, .ref y1), (2, .ref y2), (3, .ref 13), (5, .int p5)]) (st1 := []) rfl rfl rfl ?_
          refine w_mv (pc1 := 57) (lv1 := [(5, .int (p5 + 1)), (4, .int v9), (0, .ref 9), (1, .ref y1), (2, .ref y2), (3, .ref 13)]) (st1 := []) rfl rfl rfl ?_
          refine w_mv (pc1 := 23) (st1 := []) rfl rfl rfl ?_
          refine w_wk (l1 := [(0, .ref 9), (1, .ref y1), (2, .ref y2), (3, .ref 13), (4, .int v9), (5, .int (p5 + 1))]) rfl ⟨rfl, rfl, rfl, rfl, rfl, rfl, trivial⟩ ?_
          refine hh d _ _ P (fun r N1 G1 kc1 ks1 q => ?_)
          exact c_acc (hP r N1 G1 _ _ q) (by omega) (by omega)
        | some x5 =>
          replace hh := hh.2 x5 rfl
          refine w_aret (pc1 := 45) rfl rfl rfl rfl ?_
          obtain ⟨b10b, i10_5, i10_6, i10_7, g10, hh⟩ := hh
          refine w_call (M' := sM_96) (vals := [.ref 9, .null, .ref x5]) (rest := []) (lv' := [(0, .ref 9), (1, .null), (2, .ref x5)]) rfl rfl rfl rfl rfl rfl (cH_rcv (by omega) (by omega) g10) rfl rfl rfl ?_
          refine hh _ _ _ _ (fun r11 N11 G11 kc11 ks11 hh => ?_)
          obtain ⟨er11, hh⟩ := hh
          subst er11
          refine w_kv (pc1 := 48) rfl ?_
          refine w_mv (pc1 := 49) (st1 := [.ref 13]) rfl rfl rfl ?_
          obtain ⟨b12b, i12_2, i12_3, o12_4, o12_5, g12, hh⟩ := hh
          refine w_call (M' := sM_77) (vals := [.ref 13]) (rest := []) (lv' := [(0, .ref 13)]) rfl rfl rfl rfl rfl rfl (cH_rcv (by omega) (by omega) g12) rfl rfl rfl ?_
          refine hh _ _ _ _ (fun r13 N13 G13 kc13 ks13 hh => ?_)
          obtain ⟨v13, er13, hh⟩ := hh
          subst er13
          refine w_ki (pc1 := 52) rfl ?_
          refine w_mv (pc1 := 54) (lv1 := [(4, .int v13), (0, .ref 9), (1, .ref y1), (2, .ref y2), (3, .ref 13), (5, .int p5)]) (st1 := []) rfl rfl rfl ?_
          refine w_mv (pc1 := 57) (lv1 := [(5, .int (p5 + 1)), (4, .int v13), (0, .ref 9), (1, .ref y1), (2, .ref y2), (3, .ref 13)]) (st1 := []) rfl rfl rfl ?_
          refine w_mv (pc1 := 23) (st1 := []) rfl rfl rfl ?_
          refine w_wk (l1 := [(0, .ref 9), (1, .ref y1), (2, .ref y2), (3, .ref 13), (4, .int v13), (5, .int (p5 + 1))]) rfl ⟨rfl, rfl, rfl, rfl, rfl, rfl, trivial⟩ ?_
          refine hh d _ _ P (fun r N1 G1 kc1 ks1 q => ?_)
          exact c_acc (hP r N1 G1 _ _ q) (by omega) (by omega)
      | some x4 =>
        replace hh := hh.2 x4 rfl
        refine w_aret (pc1 := 41) rfl rfl rfl rfl ?_
        refine w_mv (pc1 := 42) (st1 := [.ref 13, .ref x4, .ref 9]) rfl rfl rfl ?_
        refine w_call (M' := sM_95) (vals := [.ref 13]) (rest := [.ref x4, .ref 9]) (lv' := [(0, .ref 13)]) rfl rfl rfl rfl rfl rfl (cH_rcv (by omega) (by omega) g3) rfl rfl rfl ?_
        refine w_mv (pc1 := 1) (st1 := [.ref 13]) rfl rfl rfl ?_
        refine cw_gf (v := va_rf o3_5) (pc1 := 4) rfl (by omega) (by omega) g3 rfl rfl ?_
        cases o3_5 with
        | none =>
          replace hh := hh.1 rfl
          refine w_nret (pc1 := 45) rfl rfl rfl rfl ?_
          obtain ⟨b15b, i15_5, i15_6, i15_7, g15, hh⟩ := hh
          refine w_call (M' := sM_96) (vals := [.ref 9, .ref x4, .null]) (rest := []) (lv' := [(0, .ref 9), (1, .ref x4), (2, .null)]) rfl rfl rfl rfl rfl rfl (cH_rcv (by omega) (by omega) g15) rfl rfl rfl ?_
          refine hh _ _ _ _ (fun r16 N16 G16 kc16 ks16 hh => ?_)
          obtain ⟨er16, hh⟩ := hh
          subst er16
          refine w_kv (pc1 := 48) rfl ?_
          refine w_mv (pc1 := 49) (st1 := [.ref 13]) rfl rfl rfl ?_
          obtain ⟨b17b, i17_2, i17_3, o17_4, o17_5, g17, hh⟩ := hh
          refine w_call (M' := sM_77) (vals := [.ref 13]) (rest := []) (lv' := [(0, .ref 13)]) rfl rfl rfl rfl rfl rfl (cH_rcv (by omega) (by omega) g17) rfl rfl rfl ?_
          refine hh _ _ _ _ (fun r18 N18 G18 kc18 ks18 hh => ?_)
          obtain ⟨v18, er18, hh⟩ := hh
          subst er18
          refine w_ki (pc1 := 52) rfl ?_
          refine w_mv (pc1 := 54) (lv1 := [(4, .int v18), (0, .ref 9), (1, .ref y1), (2, .ref y2), (3, .ref 13), (5, .int p5)]) (st1 := []) rfl rfl rfl ?_
          refine w_mv (pc1 := 57) (lv1 := [(5, .int (p5 + 1)), (4, .int v18), (0, .ref 9), (1, .ref y1), (2, .ref y2), (3, .ref 13)]) (st1 := []) rfl rfl rfl ?_
          refine w_mv (pc1 := 23) (st1 := []) rfl rfl rfl ?_
          refine w_wk (l1 := [(0, .ref 9), (1, .ref y1), (2, .ref y2), (3, .ref 13), (4, .int v18), (5, .int (p5 + 1))]) rfl ⟨rfl, rfl, rfl, rfl, rfl, rfl, trivial⟩ ?_
          refine hh d _ _ P (fun r N1 G1 kc1 ks1 q => ?_)
          exact c_acc (hP r N1 G1 _ _ q) (by omega) (by omega)
        | some x14 =>
          replace hh := hh.2 x14 rfl
          refine w_aret (pc1 := 45) rfl rfl rfl rfl ?_
          obtain ⟨b19b, i19_5, i19_6, i19_7, g19, hh⟩ := hh
          refine w_call (M' := sM_96) (vals := [.ref 9, .ref x4, .ref x14]) (rest := []) (lv' := [(0, .ref 9), (1, .ref x4), (2, .ref x14)]) rfl rfl rfl rfl rfl rfl (cH_rcv (by omega) (by omega) g19) rfl rfl rfl ?_
          refine hh _ _ _ _ (fun r20 N20 G20 kc20 ks20 hh => ?_)
          obtain ⟨er20, hh⟩ := hh
          subst er20
          refine w_kv (pc1 := 48) rfl ?_
          refine w_mv (pc1 := 49) (st1 := [.ref 13]) rfl rfl rfl ?_
          obtain ⟨b21b, i21_2, i21_3, o21_4, o21_5, g21, hh⟩ := hh
          refine w_call (M' := sM_77) (vals := [.ref 13]) (rest := []) (lv' := [(0, .ref 13)]) rfl rfl rfl rfl rfl rfl (cH_rcv (by omega) (by omega) g21) rfl rfl rfl ?_
          refine hh _ _ _ _ (fun r22 N22 G22 kc22 ks22 hh => ?_)
          obtain ⟨v22, er22, hh⟩ := hh
          subst er22
          refine w_ki (pc1 := 52) rfl ?_
          refine w_mv (pc1 := 54) (lv1 := [(4, .int v22), (0, .ref 9), (1, .ref y1), (2, .ref y2), (3, .ref 13), (5, .int p5)]) (st1 := []) rfl rfl rfl ?_
          refine w_mv (pc1 := 57) (lv1 := [(5, .int (p5 + 1)), (4, .int v22), (0, .ref 9), (1, .ref y1), (2, .ref y2), (3, .ref 13)]) (st1 := []) rfl rfl rfl ?_
          refine w_mv (pc1 := 23) (st1 := []) rfl rfl rfl ?_
          refine w_wk (l1 := [(0, .ref 9), (1, .ref y1), (2, .ref y2), (3, .ref 13), (4, .int v22), (5, .int (p5 + 1))]) rfl ⟨rfl, rfl, rfl, rfl, rfl, rfl, trivial⟩ ?_
          refine hh d _ _ P (fun r N1 G1 kc1 ks1 q => ?_)
          exact c_acc (hP r N1 G1 _ _ q) (by omega) (by omega)
    ·
      replace hh := hh.1 h2
      refine w_ine_T (pc1 := 60) rfl rfl (show p4.toInt ≠ 2 from h2) ?_
      refine w_mv (pc1 := 62) (st1 := [.int p4]) rfl rfl rfl ?_
      refine sx_wp.stop rfl rfl rfl ?_
      exact c_acc (hP _ _ _ _ _ hh) (by omega) (by omega)
set_option maxRecDepth 20000 in
set_option maxHeartbeats 4000000 in
theorem k_96_0 {y1 : Nat} {y2 : Nat} {N : Nat} {G : Nat → sx_C} {K : Option Value ⊕ Nat → Nat → (Nat → sx_C) → Nat → Nat → Prop} (hh : 5 ≤ y1 ∧ y1 < N ∧ ∃ (i1_1 : Int32) (i1_2 : Int32) (i1_3 : Int32) (o1_4 : Option Nat), G y1 = .inr (.inl (10, [.ref (y1 + 1), .int i1_1, .int i1_2, .int i1_3, va_rf o1_4])) ∧ ((i1_1.toInt ≠ 0 → ((i1_1.toInt ≠ 0 → 5 ≤ y2 ∧ y2 < N ∧ ∃ (i23_1 : Int32) (i23_2 : Int32) (i23_3 : Int32) (o23_4 : Option Nat), G y2 = .inr (.inl (10, [.ref (y2 + 1), .int i23_1, .int i23_2, .int i23_3, va_rf o23_4])) ∧ 9 < N ∧ ∃ (i25_5 : Int32) (i25_6 : Int32) (i25_7 : Int32), (va_up G y2 (.inr (.inl (10, [.ref (y2 + 1), .int i23_1, .int i23_2, .int i23_3, .ref y1])))) 9 = .inr (.inl (2, [.ref 10, .ref 17, .ref 18, .ref 20, .ref 22, .int i25_5, .int i25_6, .int i25_7])) ∧ cT (3) sM_97 0 [(0, .ref 9), (1, .ref y2)] [] (N) (va_up G y2 (.inr (.inl (10, [.ref (y2 + 1), .int i23_1, .int i23_2, .int i23_3, .ref y1])))) (fun r26 N26 G26 kc26 ks26 => r26 = .inl none ∧ K (.inl none) (N26) G26 (kc26) (ks26))) ∧ (i1_1.toInt = 0 → 9 < N ∧ ∃ (i21_5 : Int32) (i21_6 : Int32) (i21_7 : Int32), (va_up G y1 (.inr (.inl (10, [.ref (y1 + 1), .int i1_1, .int i1_2, .int i1_3, .ref y2])))) 9 = .inr (.inl (2, [.ref 10, .ref 17, .ref 18, .ref 20, .ref 22, .int i21_5, .int i21_6, .int i21_7])) ∧ cT (3) sM_97 0 [(0, .ref 9), (1, .ref y1)] [] (N) (va_up G y1 (.inr (.inl (10, [.ref (y1 + 1), .int i1_1, .int i1_2, .int i1_3, .ref y2])))) (fun r22 N22 G22 kc22 ks22 => r22 = .inl none ∧ K (.inl none) (N22) G22 (kc22) (ks22))))) ∧ (i1_1.toInt = 0 → 5 ≤ y2 ∧ y2 < N ∧ ∃ (i3_1 : Int32) (i3_2 : Int32) (i3_3 : Int32) (o3_4 : Option Nat), G y2 = .inr (.inl (10, [.ref (y2 + 1), .int i3_1, .int i3_2, .int i3_3, va_rf o3_4])) ∧ ((i3_1.toInt ≠ 0 → ((i1_1.toInt ≠ 0 → 9 < N ∧ ∃ (i17_5 : Int32) (i17_6 : Int32) (i17_7 : Int32), (va_up G y2 (.inr (.inl (10, [.ref (y2 + 1), .int i3_1, .int i3_2, .int i3_3, .ref y1])))) 9 = .inr (.inl (2, [.ref 10, .ref 17, .ref 18, .ref 20, .ref 22, .int i17_5, .int i17_6, .int i17_7])) ∧ cT (3) sM_97 0 [(0, .ref 9), (1, .ref y2)] [] (N) (va_up G y2 (.inr (.inl (10, [.ref (y2 + 1), .int i3_1, .int i3_2, .int i3_3, .ref y1])))) (fun r18 N18 G18 kc18 ks18 => r18 = .inl none ∧ K (.inl none) (N18) G18 (kc18) (ks18))) ∧ (i1_1.toInt = 0 → 9 < N ∧ ∃ (i14_5 : Int32) (i14_6 : Int32) (i14_7 : Int32), (va_up G y1 (.inr (.inl (10, [.ref (y1 + 1), .int i1_1, .int i1_2, .int i1_3, .ref y2])))) 9 = .inr (.inl (2, [.ref 10, .ref 17, .ref 18, .ref 20, .ref 22, .int i14_5, .int i14_6, .int i14_7])) ∧ cT (3) sM_97 0 [(0, .ref 9), (1, .ref y1)] [] (N) (va_up G y1 (.inr (.inl (10, [.ref (y1 + 1), .int i1_1, .int i1_2, .int i1_3, .ref y2])))) (fun r15 N15 G15 kc15 ks15 => r15 = .inl none ∧ K (.inl none) (N15) G15 (kc15) (ks15))))) ∧ (i3_1.toInt = 0 → ((i1_2.toInt ≤ i3_2.toInt → 9 < N ∧ ∃ (i7_5 : Int32) (i7_6 : Int32) (i7_7 : Int32), (va_up G y2 (.inr (.inl (10, [.ref (y2 + 1), .int i3_1, .int i3_2, .int i3_3, .ref y1])))) 9 = .inr (.inl (2, [.ref 10, .ref 17, .ref 18, .ref 20, .ref 22, .int i7_5, .int i7_6, .int i7_7])) ∧ cT (3) sM_97 0 [(0, .ref 9), (1, .ref y2)] [] (N) (va_up G y2 (.inr (.inl (10, [.ref (y2 + 1), .int i3_1, .int i3_2, .int i3_3, .ref y1])))) (fun r8 N8 G8 kc8 ks8 => r8 = .inl none ∧ K (.inl none) (N8) G8 (kc8) (ks8))) ∧ (i3_2.toInt < i1_2.toInt → 9 < N ∧ ∃ (i10_5 : Int32) (i10_6 : Int32) (i10_7 : Int32), (va_up G y1 (.inr (.inl (10, [.ref (y1 + 1), .int i1_1, .int i1_2, .int i1_3, .ref y2])))) 9 = .inr (.inl (2, [.ref 10, .ref 17, .ref 18, .ref 20, .ref 22, .int i10_5, .int i10_6, .int i10_7])) ∧ cT (3) sM_97 0 [(0, .ref 9), (1, .ref y1)] [] (N) (va_up G y1 (.inr (.inl (10, [.ref (y1 + 1), .int i1_1, .int i1_2, .int i1_3, .ref y2])))) (fun r11 N11 G11 kc11 ks11 => r11 = .inl none ∧ K (.inl none) (N11) G11 (kc11) (ks11))))))))) : cT (4) sM_96 0 [(0, .ref 9), (1, .ref y1), (2, .ref y2)] [] N G K := by
  intro d dc ds P hP
  refine w_mv (pc1 := 1) (st1 := [.ref y1]) rfl rfl rfl ?_
  obtain ⟨b1a, b1b, i1_1, i1_2, i1_3, o1_4, g1, hh⟩ := hh
  refine cw_gf (v := .int i1_1) (pc1 := 4) rfl (by omega) (by omega) g1 rfl rfl ?_
  by_cases h2 : i1_1.toInt = 0
  ·
    replace hh := hh.2 h2
    refine w_zne_F (pc1 := 7) rfl (by decide) rfl (show i1_1.toInt = 0 from h2) ?_
    refine w_mv (pc1 := 8) (st1 := [.ref y2]) rfl rfl rfl ?_
    obtain ⟨b3a, b3b, i3_1, i3_2, i3_3, o3_4, g3, hh⟩ := hh
    refine cw_gf (v := .int i3_1) (pc1 := 11) rfl (by omega) (by omega) g3 rfl rfl ?_
    by_cases h4 : i3_1.toInt = 0
    ·
      replace hh := hh.2 h4
      refine w_zne_F (pc1 := 14) rfl (by decide) rfl (show i3_1.toInt = 0 from h4) ?_
      refine w_mv (pc1 := 15) (st1 := [.int 1]) rfl rfl rfl ?_
      refine w_mv (pc1 := 19) (st1 := [.int 1]) rfl rfl rfl ?_
      refine w_mv (pc1 := 20) (lv1 := [(3, .int 1), (0, .ref 9), (1, .ref y1), (2, .ref y2)]) (st1 := []) rfl rfl rfl ?_
      refine w_mv (pc1 := 21) (st1 := [.int 1]) rfl rfl rfl ?_
      refine w_mv (pc1 := 24) (st1 := []) rfl rfl rfl ?_
      refine w_mv (pc1 := 25) (st1 := [.ref y1]) rfl rfl rfl ?_
      refine cw_gf (v := .int i1_2) (pc1 := 28) rfl (by omega) (by omega) g1 rfl rfl ?_
      refine w_mv (pc1 := 29) (st1 := [.ref y2, .int i1_2]) rfl rfl rfl ?_
      refine cw_gf (v := .int i3_2) (pc1 := 32) rfl (by omega) (by omega) g3 rfl rfl ?_
      by_cases h5 : i1_2.toInt ≤ i3_2.toInt
      ·
        replace hh := hh.1 h5
        refine w_ile_T (pc1 := 39) rfl rfl (show i1_2.toInt ≤ i3_2.toInt from h5) ?_
        refine w_mv (pc1 := 40) (st1 := [.int 0]) rfl rfl rfl ?_
        refine w_mv (pc1 := 55) (st1 := [.int 0]) rfl rfl rfl ?_
        refine w_mv (pc1 := 57) (lv1 := [(4, .int 0), (3, .int 1), (0, .ref 9), (1, .ref y1), (2, .ref y2)]) (st1 := []) rfl rfl rfl ?_
        refine w_mv (pc1 := 59) (st1 := [.int 0]) rfl rfl rfl ?_
        refine w_mv (pc1 := 75) (st1 := []) rfl rfl rfl ?_
        refine w_mv (pc1 := 76) (st1 := [.ref y2]) rfl rfl rfl ?_
        refine w_mv (pc1 := 77) (st1 := [.ref y1, .ref y2]) rfl rfl rfl ?_
        refine cw_pf (c1 := .inr (.inl (10, [.ref (y2 + 1), .int i3_1, .int i3_2, .int i3_3, .ref y1]))) (pc1 := 80) rfl (by omega) (by omega) g3 rfl rfl rfl rfl ?_
        have g6 : (va_up G y2 (.inr (.inl (10, [.ref (y2 + 1), .int i3_1, .int i3_2, .int i3_3, .ref y1])))) y2 = .inr (.inl (10, [.ref (y2 + 1), .int i3_1, .int i3_2, .int i3_3, .ref y1])) := up_eq
        refine w_mv (pc1 := 81) (st1 := [.ref 9]) rfl rfl rfl ?_
        refine w_mv (pc1 := 82) (st1 := [.ref y2, .ref 9]) rfl rfl rfl ?_
        obtain ⟨b7b, i7_5, i7_6, i7_7, g7, hh⟩ := hh
        refine w_call (M' := sM_97) (vals := [.ref 9, .ref y2]) (rest := []) (lv' := [(0, .ref 9), (1, .ref y2)]) rfl rfl rfl rfl rfl rfl (cH_rcv (by omega) (by omega) g7) rfl rfl rfl ?_
        refine hh _ _ _ _ (fun r8 N8 G8 kc8 ks8 hh => ?_)
        obtain ⟨er8, hh⟩ := hh
        subst er8
        refine w_kv (pc1 := 85) rfl ?_
        refine sx_wp.stop rfl rfl rfl ?_
        exact c_acc (hP _ _ _ _ _ hh) (by omega) (by omega)
      ·
        replace hh := hh.2 (Int.not_le.mp h5)
        refine w_ile_F (pc1 := 35) rfl (by decide) rfl (show i3_2.toInt < i1_2.toInt from (Int.not_le.mp h5)) ?_
        refine w_mv (pc1 := 36) (st1 := [.int 1]) rfl rfl rfl ?_
        refine w_mv (pc1 := 55) (st1 := [.int 1]) rfl rfl rfl ?_
        refine w_mv (pc1 := 57) (lv1 := [(4, .int 1), (3, .int 1), (0, .ref 9), (1, .ref y1), (2, .ref y2)]) (st1 := []) rfl rfl rfl ?_
        refine w_mv (pc1 := 59) (st1 := [.int 1]) rfl rfl rfl ?_
        refine w_mv (pc1 := 62) (st1 := []) rfl rfl rfl ?_
        refine w_mv (pc1 := 63) (st1 := [.ref y1]) rfl rfl rfl ?_
        refine w_mv (pc1 := 64) (st1 := [.ref y2, .ref y1]) rfl rfl rfl ?_
        refine cw_pf (c1 := .inr (.inl (10, [.ref (y1 + 1), .int i1_1, .int i1_2, .int i1_3, .ref y2]))) (pc1 := 67) rfl (by omega) (by omega) g1 rfl rfl rfl rfl ?_
        have g9 : (va_up G y1 (.inr (.inl (10, [.ref (y1 + 1), .int i1_1, .int i1_2, .int i1_3, .ref y2])))) y1 = .inr (.inl (10, [.ref (y1 + 1), .int i1_1, .int i1_2, .int i1_3, .ref y2])) := up_eq
        refine w_mv (pc1 := 68) (st1 := [.ref 9]) rfl rfl rfl ?_
        refine w_mv (pc1 := 69) (st1 := [.ref y1, .ref 9]) rfl rfl rfl ?_
        obtain ⟨b10b, i10_5, i10_6, i10_7, g10, hh⟩ := hh
        refine w_call (M' := sM_97) (vals := [.ref 9, .ref y1]) (rest := []) (lv' := [(0, .ref 9), (1, .ref y1)]) rfl rfl rfl rfl rfl rfl (cH_rcv (by omega) (by omega) g10) rfl rfl rfl ?_
        refine hh _ _ _ _ (fun r11 N11 G11 kc11 ks11 hh => ?_)
        obtain ⟨er11, hh⟩ := hh
        subst er11
        refine w_kv (pc1 := 72) rfl ?_
        refine w_mv (pc1 := 85) (st1 := []) rfl rfl rfl ?_
        refine sx_wp.stop rfl rfl rfl ?_
        exact c_acc (hP _ _ _ _ _ hh) (by omega) (by omega)
    ·
      replace hh := hh.1 h4
      refine w_zne_T (pc1 := 18) rfl rfl (show i3_1.toInt ≠ 0 from h4) ?_
      refine w_mv (pc1 := 19) (st1 := [.int 0]) rfl rfl rfl ?_
      refine w_mv (pc1 := 20) (lv1 := [(3, .int 0), (0, .ref 9), (1, .ref y1), (2, .ref y2)]) (st1 := []) rfl rfl rfl ?_
      refine w_mv (pc1 := 21) (st1 := [.int 0]) rfl rfl rfl ?_
      refine w_mv (pc1 := 43) (st1 := []) rfl rfl rfl ?_
      refine w_mv (pc1 := 44) (st1 := [.ref y1]) rfl rfl rfl ?_
      refine cw_gf (v := .int i1_1) (pc1 := 47) rfl (by omega) (by omega) g1 rfl rfl ?_
      by_cases h12 : i1_1.toInt = 0
      ·
        replace hh := hh.2 h12
        refine w_zne_F (pc1 := 50) rfl (by decide) rfl (show i1_1.toInt = 0 from h12) ?_
        refine w_mv (pc1 := 51) (st1 := [.int 1]) rfl rfl rfl ?_
        refine w_mv (pc1 := 55) (st1 := [.int 1]) rfl rfl rfl ?_
        refine w_mv (pc1 := 57) (lv1 := [(4, .int 1), (3, .int 0), (0, .ref 9), (1, .ref y1), (2, .ref y2)]) (st1 := []) rfl rfl rfl ?_
        refine w_mv (pc1 := 59) (st1 := [.int 1]) rfl rfl rfl ?_
        refine w_mv (pc1 := 62) (st1 := []) rfl rfl rfl ?_
        refine w_mv (pc1 := 63) (st1 := [.ref y1]) rfl rfl rfl ?_
        refine w_mv (pc1 := 64) (st1 := [.ref y2, .ref y1]) rfl rfl rfl ?_
        refine cw_pf (c1 := .inr (.inl (10, [.ref (y1 + 1), .int i1_1, .int i1_2, .int i1_3, .ref y2]))) (pc1 := 67) rfl (by omega) (by omega) g1 rfl rfl rfl rfl ?_
        have g13 : (va_up G y1 (.inr (.inl (10, [.ref (y1 + 1), .int i1_1, .int i1_2, .int i1_3, .ref y2])))) y1 = .inr (.inl (10, [.ref (y1 + 1), .int i1_1, .int i1_2, .int i1_3, .ref y2])) := up_eq
        refine w_mv (pc1 := 68) (st1 := [.ref 9]) rfl rfl rfl ?_
        refine w_mv (pc1 := 69) (st1 := [.ref y1, .ref 9]) rfl rfl rfl ?_
        obtain ⟨b14b, i14_5, i14_6, i14_7, g14, hh⟩ := hh
        refine w_call (M' := sM_97) (vals := [.ref 9, .ref y1]) (rest := []) (lv' := [(0, .ref 9), (1, .ref y1)]) rfl rfl rfl rfl rfl rfl (cH_rcv (by omega) (by omega) g14) rfl rfl rfl ?_
        refine hh _ _ _ _ (fun r15 N15 G15 kc15 ks15 hh => ?_)
        obtain ⟨er15, hh⟩ := hh
        subst er15
        refine w_kv (pc1 := 72) rfl ?_
        refine w_mv (pc1 := 85) (st1 := []) rfl rfl rfl ?_
        refine sx_wp.stop rfl rfl rfl ?_
        exact c_acc (hP _ _ _ _ _ hh) (by omega) (by omega)
      ·
        replace hh := hh.1 h12
        refine w_zne_T (pc1 := 54) rfl rfl (show i1_1.toInt ≠ 0 from h12) ?_
        refine w_mv (pc1 := 55) (st1 := [.int 0]) rfl rfl rfl ?_
        refine w_mv (pc1 := 57) (lv1 := [(4, .int 0), (3, .int 0), (0, .ref 9), (1, .ref y1), (2, .ref y2)]) (st1 := []) rfl rfl rfl ?_
        refine w_mv (pc1 := 59) (st1 := [.int 0]) rfl rfl rfl ?_
        refine w_mv (pc1 := 75) (st1 := []) rfl rfl rfl ?_
        refine w_mv (pc1 := 76) (st1 := [.ref y2]) rfl rfl rfl ?_
        refine w_mv (pc1 := 77) (st1 := [.ref y1, .ref y2]) rfl rfl rfl ?_
        refine cw_pf (c1 := .inr (.inl (10, [.ref (y2 + 1), .int i3_1, .int i3_2, .int i3_3, .ref y1]))) (pc1 := 80) rfl (by omega) (by omega) g3 rfl rfl rfl rfl ?_
        have g16 : (va_up G y2 (.inr (.inl (10, [.ref (y2 + 1), .int i3_1, .int i3_2, .int i3_3, .ref y1])))) y2 = .inr (.inl (10, [.ref (y2 + 1), .int i3_1, .int i3_2, .int i3_3, .ref y1])) := up_eq
        refine w_mv (pc1 := 81) (st1 := [.ref 9]) rfl rfl rfl ?_
        refine w_mv (pc1 := 82) (st1 := [.ref y2, .ref 9]) rfl rfl rfl ?_
        obtain ⟨b17b, i17_5, i17_6, i17_7, g17, hh⟩ := hh
        refine w_call (M' := sM_97) (vals := [.ref 9, .ref y2]) (rest := []) (lv' := [(0, .ref 9), (1, .ref y2)]) rfl rfl rfl rfl rfl rfl (cH_rcv (by omega) (by omega) g17) rfl rfl rfl ?_
        refine hh _ _ _ _ (fun r18 N18 G18 kc18 ks18 hh => ?_)
        obtain ⟨er18, hh⟩ := hh
        subst er18
        refine w_kv (pc1 := 85) rfl ?_
        refine sx_wp.stop rfl rfl rfl ?_
        exact c_acc (hP _ _ _ _ _ hh) (by omega) (by omega)
  ·
    replace hh := hh.1 h2
    refine w_zne_T (pc1 := 18) rfl rfl (show i1_1.toInt ≠ 0 from h2) ?_
    refine w_mv (pc1 := 19) (st1 := [.int 0]) rfl rfl rfl ?_
    refine w_mv (pc1 := 20) (lv1 := [(3, .int 0), (0, .ref 9), (1, .ref y1), (2, .ref y2)]) (st1 := []) rfl rfl rfl ?_
    refine w_mv (pc1 := 21) (st1 := [.int 0]) rfl rfl rfl ?_
    refine w_mv (pc1 := 43) (st1 := []) rfl rfl rfl ?_
    refine w_mv (pc1 := 44) (st1 := [.ref y1]) rfl rfl rfl ?_
    refine cw_gf (v := .int i1_1) (pc1 := 47) rfl (by omega) (by omega) g1 rfl rfl ?_
    by_cases h19 : i1_1.toInt = 0
    ·
      replace hh := hh.2 h19
      refine w_zne_F (pc1 := 50) rfl (by decide) rfl (show i1_1.toInt = 0 from h19) ?_
      refine w_mv (pc1 := 51) (st1 := [.int 1]) rfl rfl rfl ?_
      refine w_mv (pc1 := 55) (st1 := [.int 1]) rfl rfl rfl ?_
      refine w_mv (pc1 := 57) (lv1 := [(4, .int 1), (3, .int 0), (0, .ref 9), (1, .ref y1), (2, .ref y2)]) (st1 := []) rfl rfl rfl ?_
      refine w_mv (pc1 := 59) (st1 := [.int 1]) rfl rfl rfl ?_
      refine w_mv (pc1 := 62) (st1 := []) rfl rfl rfl ?_
      refine w_mv (pc1 := 63) (st1 := [.ref y1]) rfl rfl rfl ?_
      refine w_mv (pc1 := 64) (st1 := [.ref y2, .ref y1]) rfl rfl rfl ?_
      refine cw_pf (c1 := .inr (.inl (10, [.ref (y1 + 1), .int i1_1, .int i1_2, .int i1_3, .ref y2]))) (pc1 := 67) rfl (by omega) (by omega) g1 rfl rfl rfl rfl ?_
      have g20 : (va_up G y1 (.inr (.inl (10, [.ref (y1 + 1), .int i1_1, .int i1_2, .int i1_3, .ref y2])))) y1 = .inr (.inl (10, [.ref (y1 + 1), .int i1_1, .int i1_2, .int i1_3, .ref y2])) := up_eq
      refine w_mv (pc1 := 68) (st1 := [.ref 9]) rfl rfl rfl ?_
      refine w_mv (pc1 := 69) (st1 := [.ref y1, .ref 9]) rfl rfl rfl ?_
      obtain ⟨b21b, i21_5, i21_6, i21_7, g21, hh⟩ := hh
      refine w_call (M' := sM_97) (vals := [.ref 9, .ref y1]) (rest := []) (lv' := [(0, .ref 9), (1, .ref y1)]) rfl rfl rfl rfl rfl rfl (cH_rcv (by omega) (by omega) g21) rfl rfl rfl ?_
      refine hh _ _ _ _ (fun r22 N22 G22 kc22 ks22 hh => ?_)
      obtain ⟨er22, hh⟩ := hh
      subst er22
      refine w_kv (pc1 := 72) rfl ?_
      refine w_mv (pc1 := 85) (st1 := []) rfl rfl rfl ?_
      refine sx_wp.stop rfl rfl rfl ?_
      exact c_acc (hP _ _ _ _ _ hh) (by omega) (by omega)
    ·
      replace hh := hh.1 h19
      refine w_zne_T (pc1 := 54) rfl rfl (show i1_1.toInt ≠ 0 from h19) ?_
      refine w_mv (pc1 := 55) (st1 := [.int 0]) rfl rfl rfl ?_
      refine w_mv (pc1 := 57) (lv1 := [(4, .int 0), (3, .int 0), (0, .ref 9), (1, .ref y1), (2, .ref y2)]) (st1 := []) rfl rfl rfl ?_
      refine w_mv (pc1 := 59) (st1 := [.int 0]) rfl rfl rfl ?_
      refine w_mv (pc1 := 75) (st1 := []) rfl rfl rfl ?_
      refine w_mv (pc1 := 76) (st1 := [.ref y2]) rfl rfl rfl ?_
      refine w_mv (pc1 := 77) (st1 := [.ref y1, .ref y2]) rfl rfl rfl ?_
      obtain ⟨b23a, b23b, i23_1, i23_2, i23_3, o23_4, g23, hh⟩ := hh
      refine cw_pf (c1 := .inr (.inl (10, [.ref (y2 + 1), .int i23_1, .int i23_2, .int i23_3, .ref y1]))) (pc1 := 80) rfl (by omega) (by omega) g23 rfl rfl rfl rfl ?_
      have g24 : (va_up G y2 (.inr (.inl (10, [.ref (y2 + 1), .int i23_1, .int i23_2, .int i23_3, .ref y1])))) y2 = .inr (.inl (10, [.ref (y2 + 1), .int i23_1, .int i23_2, .int i23_3, .ref y1])) := up_eq
      refine w_mv (pc1 := 81) (st1 := [.ref 9]) rfl rfl rfl ?_
      refine w_mv (pc1 := 82) (st1 := [.ref y2, .ref 9]) rfl rfl rfl ?_
      obtain ⟨b25b, i25_5, i25_6, i25_7, g25, hh⟩ := hh
      refine w_call (M' := sM_97) (vals := [.ref 9, .ref y2]) (rest := []) (lv' := [(0, .ref 9), (1, .ref y2)]) rfl rfl rfl rfl rfl rfl (cH_rcv (by omega) (by omega) g25) rfl rfl rfl ?_
      refine hh _ _ _ _ (fun r26 N26 G26 kc26 ks26 hh => ?_)
      obtain ⟨er26, hh⟩ := hh
      subst er26
      refine w_kv (pc1 := 85) rfl ?_
      refine sx_wp.stop rfl rfl rfl ?_
      exact c_acc (hP _ _ _ _ _ hh) (by omega) (by omega)
set_option maxRecDepth 20000 in
set_option maxHeartbeats 4000000 in
theorem k_97_0 {y1 : Nat} {N : Nat} {G : Nat → sx_C} {K : Option Value ⊕ Nat → Nat → (Nat → sx_C) → Nat → Nat → Prop} (hh : 9 < N ∧ ∃ (i1_5 : Int32) (i1_6 : Int32) (i1_7 : Int32), G 9 = .inr (.inl (2, [.ref 10, .ref 17, .ref 18, .ref 20, .ref 22, .int i1_5, .int i1_6, .int i1_7])) ∧ 18 < N ∧ ∃ (i2_1 : Int32), G 18 = .inr (.inl (6, [.ref 19, .int i2_1])) ∧ cT (3) sM_97 10 [(0, .ref 9), (1, .ref y1), (2, .int 0), (3, .int i2_1)] [] (N) G (fun r N1 G1 kc1 ks1 => K r N1 G1 (kc1) (ks1))) : cT (3) sM_97 0 [(0, .ref 9), (1, .ref y1)] [] N G K := by
  intro d dc ds P hP
  refine w_mv (pc1 := 1) (st1 := [.int 0]) rfl rfl rfl ?_
  refine w_mv (pc1 := 2) (lv1 := [(2, .int 0), (0, .ref 9), (1, .ref y1)]) (st1 := []) rfl rfl rfl ?_
  refine w_mv (pc1 := 3) (st1 := [.ref 9]) rfl rfl rfl ?_
  obtain ⟨b1b, i1_5, i1_6, i1_7, g1, hh⟩ := hh
  refine cw_gf (v := .ref 18) (pc1 := 6) rfl (by omega) (by omega) g1 rfl rfl ?_
  obtain ⟨b2b, i2_1, g2, hh⟩ := hh
  refine w_call (M' := sM_11) (vals := [.ref 18]) (rest := []) (lv' := [(0, .ref 18)]) rfl rfl rfl rfl rfl rfl (cH_rcv (by omega) (by omega) g2) rfl rfl rfl ?_
  refine w_mv (pc1 := 1) (st1 := [.ref 18]) rfl rfl rfl ?_
  refine cw_gf (v := .int i2_1) (pc1 := 4) rfl (by omega) (by omega) g2 rfl rfl ?_
  refine w_iret (pc1 := 9) rfl rfl rfl rfl ?_
  refine w_mv (pc1 := 10) (lv1 := [(3, .int i2_1), (2, .int 0), (0, .ref 9), (1, .ref y1)]) (st1 := []) rfl rfl rfl ?_
  refine w_wk (l1 := [(0, .ref 9), (1, .ref y1), (2, .int 0), (3, .int i2_1)]) rfl ⟨rfl, rfl, rfl, rfl, trivial⟩ ?_
  refine hh d _ _ P (fun r N1 G1 kc1 ks1 q => ?_)
  exact c_acc (hP r N1 G1 _ _ q) (by omega) (by omega)
set_option maxRecDepth 20000 in
set_option maxHeartbeats 4000000 in
theorem k_97_10 {y1 : Nat} {p2 : Int32} {p3 : Int32} {N : Nat} {G : Nat → sx_C} {K : Option Value ⊕ Nat → Nat → (Nat → sx_C) → Nat → Nat → Prop} (hh : ((p3.toInt ≤ 0 → K (.inl none) (N) G (0) (0)) ∧ (0 < p3.toInt → 9 < N ∧ ∃ (i2_5 : Int32) (i2_6 : Int32) (i2_7 : Int32), G 9 = .inr (.inl (2, [.ref 10, .ref 17, .ref 18, .ref 20, .ref 22, .int i2_5, .int i2_6, .int i2_7])) ∧ 18 < N ∧ ∃ (i3_1 : Int32), G 18 = .inr (.inl (6, [.ref 19, .int i3_1])) ∧ ((p2.toInt < 0 → cT (3) sM_97 10 [(0, .ref 9), (1, .ref y1), (2, .int (p2 + 1)), (3, .int (p3 + (-1)))] [] (N) G (fun r N1 G1 kc1 ks1 => K r N1 G1 (kc1) (ks1))) ∧ (0 ≤ p2.toInt → ((i3_1.toInt ≤ p2.toInt → cT (3) sM_97 10 [(0, .ref 9), (1, .ref y1), (2, .int (p2 + 1)), (3, .int (p3 + (-1)))] [] (N) G (fun r N1 G1 kc1 ks1 => K r N1 G1 (kc1) (ks1))) ∧ (p2.toInt < i3_1.toInt → 19 < N ∧ ∃ (f6 : Nat → Option Nat), G 19 = .inl (7, (61, .inr (.inr (.inr (.inr f6))))) ∧ 0 ≤ p2.toInt ∧ p2.toInt < (61 : Nat) ∧ ∃ x8, f6 p2.toNatClampNeg = some x8 ∧ 5 ≤ x8 ∧ x8 < N ∧ ∃ (i9_0 : Int32) (i9_1 : Int32) (o9_2 : Option Nat) (o9_3 : Option Nat) (o9_4 : Option Nat) (i9_6 : Int32), G x8 = .inr (.inl (11, [.int i9_0, .int i9_1, va_rf o9_2, va_rf o9_3, va_rf o9_4, .ref (x8 + 1), .int i9_6])) ∧ cT (1) sM_90 0 [(0, .ref x8), (1, .ref y1)] [] (N) G (fun r10 N10 G10 kc10 ks10 => N = N10 ∧ G = G10 ∧ 0 = kc10 ∧ 0 = ks10 ∧ ∃ v10 : Int32, r10 = .inl (some (.int v10)) ∧ ((v10.toInt = 0 → cT (3) sM_97 10 [(0, .ref 9), (1, .ref y1), (2, .int (p2 + 1)), (3, .int (p3 + (-1)))] [] (N) G (fun r N1 G1 kc1 ks1 => K r N1 G1 (kc1) (ks1))) ∧ (v10.toInt ≠ 0 → cT (2) sM_50 0 [(0, .ref 18), (1, .int p2)] [] (N) G (fun r12 N12 G12 kc12 ks12 => ∃ o12 : Option Nat, r12 = .inl (some (va_rf o12)) ∧ 5 ≤ x8 ∧ x8 < N12 ∧ ∃ (i13_0 : Int32) (i13_1 : Int32) (o13_2 : Option Nat) (o13_3 : Option Nat) (o13_4 : Option Nat) (i13_6 : Int32), G12 x8 = .inr (.inl (11, [.int i13_0, .int i13_1, va_rf o13_2, va_rf o13_3, va_rf o13_4, .ref (x8 + 1), .int i13_6])) ∧ 9 < N12 ∧ ∃ (i15_5 : Int32) (i15_6 : Int32) (i15_7 : Int32), (va_up G12 x8 (.inr (.inl (11, [.int i13_0, .int i13_1, va_rf o13_2, va_rf o13_3, va_rf o13_4, .ref (x8 + 1), .int 0])))) 9 = .inr (.inl (2, [.ref 10, .ref 17, .ref 18, .ref 20, .ref 22, .int i15_5, .int i15_6, .int i15_7])) ∧ 17 < N12 ∧ ∃ (f16 : Nat → Option Nat), (va_up G12 x8 (.inr (.inl (11, [.int i13_0, .int i13_1, va_rf o13_2, va_rf o13_3, va_rf o13_4, .ref (x8 + 1), .int 0])))) 17 = .inl (5, (4, .inr (.inr (.inr (.inr f16))))) ∧ 0 ≤ i13_1.toInt ∧ i13_1.toInt < (4 : Nat) ∧ ∃ x18, f16 i13_1.toNatClampNeg = some x18 ∧ 5 ≤ x18 ∧ x18 < N12 ∧ ∃ (i19_1 : Int32), (va_up G12 x8 (.inr (.inl (11, [.int i13_0, .int i13_1, va_rf o13_2, va_rf o13_3, va_rf o13_4, .ref (x8 + 1), .int 0])))) x18 = .inr (.inl (6, [.ref (x18 + 1), .int i19_1])) ∧ 5 ≤ x18 + 1 ∧ x18 + 1 < N12 ∧ ∃ (f20 : Nat → Option Nat), (va_up G12 x8 (.inr (.inl (11, [.int i13_0, .int i13_1, va_rf o13_2, va_rf o13_3, va_rf o13_4, .ref (x8 + 1), .int 0])))) (x18 + 1) = .inl (7, (61, .inr (.inr (.inr (.inr f20))))) ∧ ((61 ≤ i19_1.toInt → cT (3) sM_97 10 [(0, .ref 9), (1, .ref y1), (2, .int p2), (3, .int (p3 + (-1)))] [] (N12) (va_up G12 x8 (.inr (.inl (11, [.int i13_0, .int i13_1, va_rf o13_2, va_rf o13_3, va_rf o13_4, .ref (x8 + 1), .int 0])))) (fun r N1 G1 kc1 ks1 => K r N1 G1 (kc12 + kc1) (ks12 + ks1))) ∧ (i19_1.toInt < 61 → 0 ≤ i19_1.toInt ∧ i19_1.toInt < (61 : Nat) ∧ cT (3) sM_97 10 [(0, .ref 9), (1, .ref y1), (2, .int p2), (3, .int (p3 + (-1)))] [] (N12) (va_up (va_up (va_up G12 x8 (.inr (.inl (11, [.int i13_0, .int i13_1, va_rf o13_2, va_rf o13_3, va_rf o13_4, .ref (x8 + 1), .int 0])))) (x18 + 1) (.inl (7, (61, .inr (.inr (.inr (.inr (va_up f20 i19_1.toNatClampNeg (some x8))))))))) x18 (.inr (.inl (6, [.ref (x18 + 1), .int (i19_1 + 1)])))) (fun r N1 G1 kc1 ks1 => K r N1 G1 (kc12 + kc1) (ks12 + ks1))))))))))))))) : cT (3) sM_97 10 [(0, .ref 9), (1, .ref y1), (2, .int p2), (3, .int p3)] [] N G K := by
  intro d dc ds P hP
  refine w_mv (pc1 := 11) (st1 := [.int p3]) rfl rfl rfl ?_
  by_cases h1 : p3.toInt ≤ 0
  ·
    replace hh := hh.1 h1
    refine w_zle_T (pc1 := 79) rfl rfl (show p3.toInt ≤ 0 from h1) ?_
    refine sx_wp.stop rfl rfl rfl ?_
    exact c_acc (hP _ _ _ _ _ hh) (by omega) (by omega)
  ·
    replace hh := hh.2 (Int.not_le.mp h1)
    refine w_zle_F (pc1 := 14) rfl (by decide) rfl (show 0 < p3.toInt from (Int.not_le.mp h1)) ?_
    refine w_mv (pc1 := 15) (st1 := [.ref 9]) rfl rfl rfl ?_
    obtain ⟨b2b, i2_5, i2_6, i2_7, g2, hh⟩ := hh
    refine cw_gf (v := .ref 18) (pc1 := 18) rfl (by omega) (by omega) g2 rfl rfl ?_
    refine w_mv (pc1 := 19) (st1 := [.int p2, .ref 18]) rfl rfl rfl ?_
    obtain ⟨b3b, i3_1, g3, hh⟩ := hh
    refine w_call (M' := sM_51) (vals := [.ref 18, .int p2]) (rest := []) (lv' := [(0, .ref 18), (1, .int p2)]) rfl rfl rfl rfl rfl rfl (cH_rcv (by omega) (by omega) g3) rfl rfl rfl ?_
    refine w_mv (pc1 := 1) (st1 := [.int p2]) rfl rfl rfl ?_
    by_cases h4 : p2.toInt < 0
    ·
      replace hh := hh.1 h4
      refine w_zlt_T (pc1 := 21) rfl rfl (show p2.toInt < 0 from h4) ?_
      refine w_mv (pc1 := 22) (st1 := [.null]) rfl rfl rfl ?_
      refine w_nret (pc1 := 22) rfl rfl rfl rfl ?_
      refine w_mv (pc1 := 24) (lv1 := [(4, .null), (0, .ref 9), (1, .ref y1), (2, .int p2), (3, .int p3)]) (st1 := []) rfl rfl rfl ?_
      refine w_mv (pc1 := 26) (st1 := [.null]) rfl rfl rfl ?_
      refine w_mv (pc1 := 70) (st1 := []) rfl rfl rfl ?_
      refine w_mv (pc1 := 73) (lv1 := [(2, .int (p2 + 1)), (4, .null), (0, .ref 9), (1, .ref y1), (3, .int p3)]) (st1 := []) rfl rfl rfl ?_
      refine w_mv (pc1 := 76) (lv1 := [(3, .int (p3 + (-1))), (2, .int (p2 + 1)), (4, .null), (0, .ref 9), (1, .ref y1)]) (st1 := []) rfl rfl rfl ?_
      refine w_mv (pc1 := 10) (st1 := []) rfl rfl rfl ?_
      refine w_wk (l1 := [(0, .ref 9), (1, .ref y1), (2, .int (p2 + 1)), (3, .int (p3 + (-1)))]) rfl ⟨rfl, rfl, rfl, rfl, trivial⟩ ?_
      refine hh d _ _ P (fun r N1 G1 kc1 ks1 q => ?_)
      exact c_acc (hP r N1 G1 _ _ q) (by omega) (by omega)
    ·
      replace hh := hh.2 (Int.not_lt.mp h4)
      refine w_zlt_F (pc1 := 4) rfl (by decide) rfl (show 0 ≤ p2.toInt from (Int.not_lt.mp h4)) ?_
      refine w_mv (pc1 := 5) (st1 := [.int p2]) rfl rfl rfl ?_
      refine w_mv (pc1 := 6) (st1 := [.ref 18, .int p2]) rfl rfl rfl ?_
      refine cw_gf (v := .int i3_1) (pc1 := 9) rfl (by omega) (by omega) g3 rfl rfl ?_
      by_cases h5 : i3_1.toInt ≤ p2.toInt
      ·
        replace hh := hh.1 h5
        refine w_ige_T (pc1 := 21) rfl rfl (show i3_1.toInt ≤ p2.toInt from h5) ?_
        refine w_mv (pc1 := 22) (st1 := [.null]) rfl rfl rfl ?_
        refine w_nret (pc1 := 22) rfl rfl rfl rfl ?_
        refine w_mv (pc1 := 24) (lv1 := [(4, .null), (0, .ref 9), (1, .ref y1), (2, .int p2), (3, .int p3)]) (st1 := []) rfl rfl rfl ?_
        refine w_mv (pc1 := 26) (st1 := [.null]) rfl rfl rfl ?_
        refine w_mv (pc1 := 70) (st1 := []) rfl rfl rfl ?_
        refine w_mv (pc1 := 73) (lv1 := [(2, .int (p2 + 1)), (4, .null), (0, .ref 9), (1, .ref y1), (3, .int p3)]) (st1 := []) rfl rfl rfl ?_
        refine w_mv (pc1 := 76) (lv1 := [(3, .int (p3 + (-1))), (2, .int (p2 + 1)), (4, .null), (0, .ref 9), (1, .ref y1)]) (st1 := []) rfl rfl rfl ?_
        refine w_mv (pc1 := 10) (st1 := []) rfl rfl rfl ?_
        refine w_wk (l1 := [(0, .ref 9), (1, .ref y1), (2, .int (p2 + 1)), (3, .int (p3 + (-1)))]) rfl ⟨rfl, rfl, rfl, rfl, trivial⟩ ?_
        refine hh d _ _ P (fun r N1 G1 kc1 ks1 q => ?_)
        exact c_acc (hP r N1 G1 _ _ q) (by omega) (by omega)
      ·
        replace hh := hh.2 (Int.not_le.mp h5)
        refine w_ige_F (pc1 := 12) rfl (by decide) rfl (show p2.toInt < i3_1.toInt from (Int.not_le.mp h5)) ?_
        refine w_mv (pc1 := 13) (st1 := [.ref 18]) rfl rfl rfl ?_
        refine cw_gf (v := .ref 19) (pc1 := 16) rfl (by omega) (by omega) g3 rfl rfl ?_
        refine w_mv (pc1 := 17) (st1 := [.int p2, .ref 19]) rfl rfl rfl ?_
        obtain ⟨b6b, f6, g6, hh⟩ := hh
        obtain ⟨q7a, q7b, hh⟩ := hh
        refine cw_ald (pc1 := 18) rfl (by omega) g6 rfl q7a q7b rfl ?_
        obtain ⟨x8, e8, hh⟩ := hh
        rw [e8]
        refine w_mv (pc1 := 22) (st1 := [.ref x8]) rfl rfl rfl ?_
        refine w_aret (pc1 := 22) rfl rfl rfl rfl ?_
        refine w_mv (pc1 := 24) (lv1 := [(4, .ref x8), (0, .ref 9), (1, .ref y1), (2, .int p2), (3, .int p3)]) (st1 := []) rfl rfl rfl ?_
        refine w_mv (pc1 := 26) (st1 := [.ref x8]) rfl rfl rfl ?_
        refine w_mv (pc1 := 29) (st1 := []) rfl rfl rfl ?_
        refine w_mv (pc1 := 31) (st1 := [.ref x8]) rfl rfl rfl ?_
        refine w_mv (pc1 := 32) (st1 := [.ref y1, .ref x8]) rfl rfl rfl ?_
        obtain ⟨b9a, b9b, i9_0, i9_1, o9_2, o9_3, o9_4, i9_6, g9, hh⟩ := hh
        refine w_call (M' := sM_90) (vals := [.ref x8, .ref y1]) (rest := []) (lv' := [(0, .ref x8), (1, .ref y1)]) rfl rfl rfl rfl rfl rfl (cH_rcv (by omega) (by omega) g9) rfl rfl rfl ?_
        refine hh _ _ _ _ (fun r10 N10 G10 kc10 ks10 hh => ?_)
        obtain ⟨eN10, eG10, ek10, es10, hh⟩ := hh
        subst eN10
        subst eG10
        subst ek10
        subst es10
        obtain ⟨v10, er10, hh⟩ := hh
        subst er10
        refine w_ki (pc1 := 35) rfl ?_
        by_cases h11 : v10.toInt = 0
        ·
          replace hh := hh.1 h11
          refine w_zeq_T (pc1 := 70) rfl rfl (show v10.toInt = 0 from h11) ?_
          refine w_mv (pc1 := 73) (lv1 := [(2, .int (p2 + 1)), (4, .ref x8), (0, .ref 9), (1, .ref y1), (3, .int p3)]) (st1 := []) rfl rfl rfl ?_
          refine w_mv (pc1 := 76) (lv1 := [(3, .int (p3 + (-1))), (2, .int (p2 + 1)), (4, .ref x8), (0, .ref 9), (1, .ref y1)]) (st1 := []) rfl rfl rfl ?_
          refine w_mv (pc1 := 10) (st1 := []) rfl rfl rfl ?_
          refine w_wk (l1 := [(0, .ref 9), (1, .ref y1), (2, .int (p2 + 1)), (3, .int (p3 + (-1)))]) rfl ⟨rfl, rfl, rfl, rfl, trivial⟩ ?_
          refine hh d _ _ P (fun r N1 G1 kc1 ks1 q => ?_)
          exact c_acc (hP r N1 G1 _ _ q) (by omega) (by omega)
        ·
          replace hh := hh.2 h11
          refine w_zeq_F (pc1 := 38) rfl (by decide) rfl (show v10.toInt ≠ 0 from h11) ?_
          refine w_mv (pc1 := 39) (st1 := [.ref 9]) rfl rfl rfl ?_
          refine cw_gf (v := .ref 18) (pc1 := 42) rfl (by omega) (by omega) g2 rfl rfl ?_
          refine w_mv (pc1 := 43) (st1 := [.int p2, .ref 18]) rfl rfl rfl ?_
          refine w_call (M' := sM_50) (vals := [.ref 18, .int p2]) (rest := []) (lv' := [(0, .ref 18), (1, .int p2)]) rfl rfl rfl rfl rfl rfl (cH_rcv (by omega) (by omega) g3) rfl rfl rfl ?_
          refine hh _ _ _ _ (fun r12 N12 G12 kc12 ks12 hh => ?_)
          obtain ⟨o12, er12, hh⟩ := hh
          subst er12
          refine w_kr (pc1 := 46) rfl ?_
          refine w_mv (pc1 := 47) (lv1 := [(4, .ref x8), (0, .ref 9), (1, .ref y1), (2, .int p2), (3, .int p3)]) (st1 := []) rfl rfl (by cases o12 <;> rfl) ?_
          refine w_mv (pc1 := 49) (st1 := [.ref x8]) rfl rfl rfl ?_
          obtain ⟨b13a, b13b, i13_0, i13_1, o13_2, o13_3, o13_4, i13_6, g13, hh⟩ := hh
          refine w_call (M' := sM_98) (vals := [.ref x8]) (rest := []) (lv' := [(0, .ref x8)]) rfl rfl rfl rfl rfl rfl (cH_rcv (by omega) (by omega) g13) rfl rfl rfl ?_
          refine w_mv (pc1 := 1) (st1 := [.ref x8]) rfl rfl rfl ?_
          refine w_mv (pc1 := 2) (st1 := [.int 0, .ref x8]) rfl rfl rfl ?_
          refine cw_pf (c1 := .inr (.inl (11, [.int i13_0, .int i13_1, va_rf o13_2, va_rf o13_3, va_rf o13_4, .ref (x8 + 1), .int 0]))) (pc1 := 5) rfl (by omega) (by omega) g13 rfl rfl rfl rfl ?_
          have g14 : (va_up G12 x8 (.inr (.inl (11, [.int i13_0, .int i13_1, va_rf o13_2, va_rf o13_3, va_rf o13_4, .ref (x8 + 1), .int 0])))) x8 = .inr (.inl (11, [.int i13_0, .int i13_1, va_rf o13_2, va_rf o13_3, va_rf o13_4, .ref (x8 + 1), .int 0])) := up_eq
          refine w_vret (pc1 := 52) rfl rfl rfl ?_
          refine w_mv (pc1 := 53) (st1 := [.ref 9]) rfl rfl rfl ?_
          obtain ⟨b15b, i15_5, i15_6, i15_7, g15, hh⟩ := hh
          refine cw_gf (v := .ref 17) (pc1 := 56) rfl (by omega) (by omega) g15 rfl rfl ?_
          refine w_mv (pc1 := 58) (st1 := [.ref x8, .ref 17]) rfl rfl rfl ?_
          refine cw_gf (v := .int i13_1) (pc1 := 61) rfl (by omega) (by omega) g14 rfl rfl ?_
          obtain ⟨b16b, f16, g16, hh⟩ := hh
          obtain ⟨q17a, q17b, hh⟩ := hh
          refine cw_ald (pc1 := 62) rfl (by omega) g16 rfl q17a q17b rfl ?_
          obtain ⟨x18, e18, hh⟩ := hh
          rw [e18]
          refine w_mv (pc1 := 64) (st1 := [.ref x8, .ref x18]) rfl rfl rfl ?_
          obtain ⟨b19a, b19b, i19_1, g19, hh⟩ := hh
          refine w_call (M' := sM_52) (vals := [.ref x18, .ref x8]) (rest := []) (lv' := [(0, .ref x18), (1, .ref x8)]) rfl rfl rfl rfl rfl rfl (cH_rcv (by omega) (by omega) g19) rfl rfl rfl ?_
          refine w_mv (pc1 := 1) (st1 := [.ref x18]) rfl rfl rfl ?_
          refine cw_gf (v := .int i19_1) (pc1 := 4) rfl (by omega) (by omega) g19 rfl rfl ?_
          refine w_mv (pc1 := 5) (st1 := [.ref x18, .int i19_1]) rfl rfl rfl ?_
          refine cw_gf (v := .ref (x18 + 1)) (pc1 := 8) rfl (by omega) (by omega) g19 rfl rfl ?_
          obtain ⟨b20a, b20b, f20, g20, hh⟩ := hh
          refine cw_alen (pc1 := 9) rfl (by omega) g20 rfl ?_
          by_cases h21 : 61 ≤ i19_1.toInt
          ·
            replace hh := hh.1 h21
            refine w_ige_T (pc1 := 32) rfl rfl (show 61 ≤ i19_1.toInt from h21) ?_
            refine w_vret (pc1 := 67) rfl rfl rfl ?_
            refine w_mv (pc1 := 73) (st1 := []) rfl rfl rfl ?_
            refine w_mv (pc1 := 76) (lv1 := [(3, .int (p3 + (-1))), (4, .ref x8), (0, .ref 9), (1, .ref y1), (2, .int p2)]) (st1 := []) rfl rfl rfl ?_
            refine w_mv (pc1 := 10) (st1 := []) rfl rfl rfl ?_
            refine w_wk (l1 := [(0, .ref 9), (1, .ref y1), (2, .int p2), (3, .int (p3 + (-1)))]) rfl ⟨rfl, rfl, rfl, rfl, trivial⟩ ?_
            refine hh d _ _ P (fun r N1 G1 kc1 ks1 q => ?_)
            exact c_acc (hP r N1 G1 _ _ q) (by omega) (by omega)
          ·
            replace hh := hh.2 (Int.not_le.mp h21)
            refine w_ige_F (pc1 := 12) rfl (by decide) rfl (show i19_1.toInt < 61 from (Int.not_le.mp h21)) ?_
            refine w_mv (pc1 := 13) (st1 := [.ref x18]) rfl rfl rfl ?_
            refine cw_gf (v := .ref (x18 + 1)) (pc1 := 16) rfl (by omega) (by omega) g19 rfl rfl ?_
            refine w_mv (pc1 := 17) (st1 := [.ref x18, .ref (x18 + 1)]) rfl rfl rfl ?_
            refine cw_gf (v := .int i19_1) (pc1 := 20) rfl (by omega) (by omega) g19 rfl rfl ?_
            refine w_mv (pc1 := 21) (st1 := [.ref x8, .int i19_1, .ref (x18 + 1)]) rfl rfl rfl ?_
            obtain ⟨q22a, q22b, hh⟩ := hh
            refine cw_as (pc1 := 22) rfl (by omega) (by omega) g20 (by omega) (by omega) g14 rfl q22a q22b rfl ?_
            have g23 : (va_up (va_up G12 x8 (.inr (.inl (11, [.int i13_0, .int i13_1, va_rf o13_2, va_rf o13_3, va_rf o13_4, .ref (x8 + 1), .int 0])))) (x18 + 1) (.inl (7, (61, .inr (.inr (.inr (.inr (va_up f20 i19_1.toNatClampNeg (some x8))))))))) x8 = .inr (.inl (11, [.int i13_0, .int i13_1, va_rf o13_2, va_rf o13_3, va_rf o13_4, .ref (x8 + 1), .int 0])) := (va_ne (ne_oa g14 g20)).trans g14
            have g24 : (va_up (va_up G12 x8 (.inr (.inl (11, [.int i13_0, .int i13_1, va_rf o13_2, va_rf o13_3, va_rf o13_4, .ref (x8 + 1), .int 0])))) (x18 + 1) (.inl (7, (61, .inr (.inr (.inr (.inr (va_up f20 i19_1.toNatClampNeg (some x8))))))))) 9 = .inr (.inl (2, [.ref 10, .ref 17, .ref 18, .ref 20, .ref 22, .int i15_5, .int i15_6, .int i15_7])) := (va_ne (ne_oa g15 g20)).trans g15
            have g25 : (va_up (va_up G12 x8 (.inr (.inl (11, [.int i13_0, .int i13_1, va_rf o13_2, va_rf o13_3, va_rf o13_4, .ref (x8 + 1), .int 0])))) (x18 + 1) (.inl (7, (61, .inr (.inr (.inr (.inr (va_up f20 i19_1.toNatClampNeg (some x8))))))))) 17 = .inl (5, (4, .inr (.inr (.inr (.inr f16))))) := (va_ne (ne_aa g16 g20 (by decide))).trans g16
            have g26 : (va_up (va_up G12 x8 (.inr (.inl (11, [.int i13_0, .int i13_1, va_rf o13_2, va_rf o13_3, va_rf o13_4, .ref (x8 + 1), .int 0])))) (x18 + 1) (.inl (7, (61, .inr (.inr (.inr (.inr (va_up f20 i19_1.toNatClampNeg (some x8))))))))) x18 = .inr (.inl (6, [.ref (x18 + 1), .int i19_1])) := (va_ne (ne_oa g19 g20)).trans g19
            have g27 : (va_up (va_up G12 x8 (.inr (.inl (11, [.int i13_0, .int i13_1, va_rf o13_2, va_rf o13_3, va_rf o13_4, .ref (x8 + 1), .int 0])))) (x18 + 1) (.inl (7, (61, .inr (.inr (.inr (.inr (va_up f20 i19_1.toNatClampNeg (some x8))))))))) (x18 + 1) = .inl (7, (61, .inr (.inr (.inr (.inr (va_up f20 i19_1.toNatClampNeg (some x8))))))) := up_eq
            refine w_mv (pc1 := 23) (st1 := [.ref x18]) rfl rfl rfl ?_
            refine w_mv (pc1 := 24) (st1 := [.ref x18, .ref x18]) rfl rfl rfl ?_
            refine cw_gf (v := .int i19_1) (pc1 := 27) rfl (by omega) (by omega) g26 rfl rfl ?_
            refine w_mv (pc1 := 28) (st1 := [.int 1, .int i19_1, .ref x18]) rfl rfl rfl ?_
            refine w_mv (pc1 := 29) (st1 := [.int (i19_1 + 1), .ref x18]) rfl rfl rfl ?_
            refine cw_pf (c1 := .inr (.inl (6, [.ref (x18 + 1), .int (i19_1 + 1)]))) (pc1 := 32) rfl (by omega) (by omega) g26 rfl rfl rfl rfl ?_
            have g28 : (va_up (va_up (va_up G12 x8 (.inr (.inl (11, [.int i13_0, .int i13_1, va_rf o13_2, va_rf o13_3, va_rf o13_4, .ref (x8 + 1), .int 0])))) (x18 + 1) (.inl (7, (61, .inr (.inr (.inr (.inr (va_up f20 i19_1.toNatClampNeg (some x8))))))))) x18 (.inr (.inl (6, [.ref (x18 + 1), .int (i19_1 + 1)])))) x8 = .inr (.inl (11, [.int i13_0, .int i13_1, va_rf o13_2, va_rf o13_3, va_rf o13_4, .ref (x8 + 1), .int 0])) := (va_ne (ne_ob g23 g26 (by decide))).trans g23
            have g29 : (va_up (va_up (va_up G12 x8 (.inr (.inl (11, [.int i13_0, .int i13_1, va_rf o13_2, va_rf o13_3, va_rf o13_4, .ref (x8 + 1), .int 0])))) (x18 + 1) (.inl (7, (61, .inr (.inr (.inr (.inr (va_up f20 i19_1.toNatClampNeg (some x8))))))))) x18 (.inr (.inl (6, [.ref (x18 + 1), .int (i19_1 + 1)])))) 9 = .inr (.inl (2, [.ref 10, .ref 17, .ref 18, .ref 20, .ref 22, .int i15_5, .int i15_6, .int i15_7])) := (va_ne (ne_ob g24 g26 (by decide))).trans g24
            have g30 : (va_up (va_up (va_up G12 x8 (.inr (.inl (11, [.int i13_0, .int i13_1, va_rf o13_2, va_rf o13_3, va_rf o13_4, .ref (x8 + 1), .int 0])))) (x18 + 1) (.inl (7, (61, .inr (.inr (.inr (.inr (va_up f20 i19_1.toNatClampNeg (some x8))))))))) x18 (.inr (.inl (6, [.ref (x18 + 1), .int (i19_1 + 1)])))) 17 = .inl (5, (4, .inr (.inr (.inr (.inr f16))))) := (va_ne (ne_ao g25 g26)).trans g25
            have g31 : (va_up (va_up (va_up G12 x8 (.inr (.inl (11, [.int i13_0, .int i13_1, va_rf o13_2, va_rf o13_3, va_rf o13_4, .ref (x8 + 1), .int 0])))) (x18 + 1) (.inl (7, (61, .inr (.inr (.inr (.inr (va_up f20 i19_1.toNatClampNeg (some x8))))))))) x18 (.inr (.inl (6, [.ref (x18 + 1), .int (i19_1 + 1)])))) (x18 + 1) = .inl (7, (61, .inr (.inr (.inr (.inr (va_up f20 i19_1.toNatClampNeg (some x8))))))) := (va_ne (ne_ao g27 g26)).trans g27
            have g32 : (va_up (va_up (va_up G12 x8 (.inr (.inl (11, [.int i13_0, .int i13_1, va_rf o13_2, va_rf o13_3, va_rf o13_4, .ref (x8 + 1), .int 0])))) (x18 + 1) (.inl (7, (61, .inr (.inr (.inr (.inr (va_up f20 i19_1.toNatClampNeg (some x8))))))))) x18 (.inr (.inl (6, [.ref (x18 + 1), .int (i19_1 + 1)])))) x18 = .inr (.inl (6, [.ref (x18 + 1), .int (i19_1 + 1)])) := up_eq
            refine w_vret (pc1 := 67) rfl rfl rfl ?_
            refine w_mv (pc1 := 73) (st1 := []) rfl rfl rfl ?_
            refine w_mv (pc1 := 76) (lv1 := [(3, .int (p3 + (-1))), (4, .ref x8), (0, .ref 9), (1, .ref y1), (2, .int p2)]) (st1 := []) rfl rfl rfl ?_
            refine w_mv (pc1 := 10) (st1 := []) rfl rfl rfl ?_
            refine w_wk (l1 := [(0, .ref 9), (1, .ref y1), (2, .int p2), (3, .int (p3 + (-1)))]) rfl ⟨rfl, rfl, rfl, rfl, trivial⟩ ?_
            refine hh d _ _ P (fun r N1 G1 kc1 ks1 q => ?_)
            exact c_acc (hP r N1 G1 _ _ q) (by omega) (by omega)
set_option maxRecDepth 20000 in
set_option maxHeartbeats 4000000 in
theorem k_99_0 {y1 : Nat} {N : Nat} {G : Nat → sx_C} {K : Option Value ⊕ Nat → Nat → (Nat → sx_C) → Nat → Nat → Prop} (hh : 5 ≤ y1 ∧ y1 < N ∧ ∃ (i1_0 : Int32) (i1_1 : Int32) (o1_2 : Option Nat) (o1_3 : Option Nat) (o1_4 : Option Nat) (i1_6 : Int32), G y1 = .inr (.inl (11, [.int i1_0, .int i1_1, va_rf o1_2, va_rf o1_3, va_rf o1_4, .ref (y1 + 1), .int i1_6])) ∧ ((o1_3 = none → False) ∧ (∀ x2, o1_3 = some x2 → 5 ≤ x2 ∧ x2 < N ∧ ∃ (i3_1 : Int32) (i3_2 : Int32) (i3_3 : Int32) (o3_4 : Option Nat), G x2 = .inr (.inl (10, [.ref (x2 + 1), .int i3_1, .int i3_2, .int i3_3, va_rf o3_4])) ∧ cT (1) sM_74 0 [(0, .ref x2)] [] (N) G (fun r4 N4 G4 kc4 ks4 => N = N4 ∧ G = G4 ∧ 0 = kc4 ∧ 0 = ks4 ∧ ∃ o4 : Option Nat, r4 = .inl (some (va_rf o4)) ∧ ((o1_4 = none → False) ∧ (∀ x5, o1_4 = some x5 → 5 ≤ x5 ∧ x5 < N ∧ ∃ (i6_1 : Int32) (i6_2 : Int32) (i6_3 : Int32) (o6_4 : Option Nat), G x5 = .inr (.inl (10, [.ref (x5 + 1), .int i6_1, .int i6_2, .int i6_3, va_rf o6_4])) ∧ cT (1) sM_74 0 [(0, .ref x5)] [] (N) G (fun r7 N7 G7 kc7 ks7 => N = N7 ∧ G = G7 ∧ 0 = kc7 ∧ 0 = ks7 ∧ ∃ o7 : Option Nat, r7 = .inl (some (va_rf o7)) ∧ ((o4 = none → False) ∧ (∀ x8, o4 = some x8 → 5 ≤ x8 ∧ x8 < N ∧ ∃ (i9_1 : Int32) (i9_2 : Int32) (i9_3 : Int32) (o9_4 : Option Nat), G x8 = .inr (.inl (10, [.ref (x8 + 1), .int i9_1, .int i9_2, .int i9_3, va_rf o9_4])) ∧ ((i9_1.toInt = 0 → ((i9_1.toInt ≠ 0 → ((o7 = none → cT (2) sM_89 0 [(0, .ref y1), (1, .null)] [] (N) G (fun r14 N14 G14 kc14 ks14 => r14 = .inl none ∧ K (.inl (some (.int 2))) (N14) G14 (kc14) (ks14))) ∧ (∀ x13, o7 = some x13 → cT (2) sM_89 0 [(0, .ref y1), (1, .ref x13)] [] (N) G (fun r15 N15 G15 kc15 ks15 => r15 = .inl none ∧ K (.inl (some (.int 2))) (N15) G15 (kc15) (ks15))))) ∧ (i9_1.toInt = 0 → cT (2) sM_89 0 [(0, .ref y1), (1, .ref x8)] [] (N) G (fun r12 N12 G12 kc12 ks12 => r12 = .inl none ∧ K (.inl (some (.int 2))) (N12) G12 (kc12) (ks12))))) ∧ (i9_1.toInt ≠ 0 → ((o7 = none → False) ∧ (∀ x16, o7 = some x16 → 5 ≤ x16 ∧ x16 < N ∧ ∃ (i17_1 : Int32) (i17_2 : Int32) (i17_3 : Int32) (o17_4 : Option Nat), G x16 = .inr (.inl (10, [.ref (x16 + 1), .int i17_1, .int i17_2, .int i17_3, va_rf o17_4])) ∧ ((i17_1.toInt ≠ 0 → ((i9_1.toInt ≠ 1 → K (.inl (some (.int 1))) (N) G (0) (0)) ∧ (i9_1.toInt = 1 → ((i17_1.toInt = 1 → ((i1_0.toInt ≠ 43 → ((i1_0.toInt ≠ 45 → 9 < N ∧ ∃ (i56_5 : Int32) (i56_6 : Int32) (i56_7 : Int32), G 9 = .inr (.inl (2, [.ref 10, .ref 17, .ref 18, .ref 20, .ref 22, .int i56_5, .int i56_6, .int i56_7])) ∧ 10 < N ∧ ∃ (i57_3 : Int32) (o57_4 : Option Nat), G 10 = .inr (.inl (3, [.ref 11, .ref 13, .ref 16, .int i57_3, va_rf o57_4])) ∧ 11 < N ∧ ∃ (i58_1 : Int32) (i58_2 : Int32), G 11 = .inr (.inl (4, [.ref 12, .int i58_1, .int i58_2])) ∧ cT (8) sM_59 0 [(0, .ref 11), (1, .int 1), (2, .int (i9_2 * i17_2))] [] (N) G (fun r59 N59 G59 kc59 ks59 => ∃ o59 : Option Nat, r59 = .inl (some (va_rf o59)) ∧ ((o59 = none → ((o1_2 = none → 9 < N59 ∧ ∃ (i62_5 : Int32) (i62_6 : Int32) (i62_7 : Int32), G59 9 = .inr (.inl (2, [.ref 10, .ref 17, .ref 18, .ref 20, .ref 22, .int i62_5, .int i62_6, .int i62_7])) ∧ cT (5) sM_93 0 [(0, .ref 9), (1, .null), (2, .null)] [] (N59) G59 (fun r63 N63 G63 kc63 ks63 => ∃ v63 : Int32, r63 = .inl (some (.int v63)) ∧ K (.inl (some (.int v63))) (N63) G63 (kc59 + kc63) (ks59 + ks63))) ∧ (∀ x61, o1_2 = some x61 → 9 < N59 ∧ ∃ (i64_5 : Int32) (i64_6 : Int32) (i64_7 : Int32), G59 9 = .inr (.inl (2, [.ref 10, .ref 17, .ref 18, .ref 20, .ref 22, .int i64_5, .int i64_6, .int i64_7])) ∧ cT (5) sM_93 0 [(0, .ref 9), (1, .ref x61), (2, .null)] [] (N59) G59 (fun r65 N65 G65 kc65 ks65 => ∃ v65 : Int32, r65 = .inl (some (.int v65)) ∧ K (.inl (some (.int v65))) (N65) G65 (kc59 + kc65) (ks59 + ks65))))) ∧ (∀ x60, o59 = some x60 → ((o1_2 = none → 9 < N59 ∧ ∃ (i67_5 : Int32) (i67_6 : Int32) (i67_7 : Int32), G59 9 = .inr (.inl (2, [.ref 10, .ref 17, .ref 18, .ref 20, .ref 22, .int i67_5, .int i67_6, .int i67_7])) ∧ cT (5) sM_93 0 [(0, .ref 9), (1, .null), (2, .ref x60)] [] (N59) G59 (fun r68 N68 G68 kc68 ks68 => ∃ v68 : Int32, r68 = .inl (some (.int v68)) ∧ K (.inl (some (.int v68))) (N68) G68 (kc59 + kc68) (ks59 + ks68))) ∧ (∀ x66, o1_2 = some x66 → 9 < N59 ∧ ∃ (i69_5 : Int32) (i69_6 : Int32) (i69_7 : Int32), G59 9 = .inr (.inl (2, [.ref 10, .ref 17, .ref 18, .ref 20, .ref 22, .int i69_5, .int i69_6, .int i69_7])) ∧ cT (5) sM_93 0 [(0, .ref 9), (1, .ref x66), (2, .ref x60)] [] (N59) G59 (fun r70 N70 G70 kc70 ks70 => ∃ v70 : Int32, r70 = .inl (some (.int v70)) ∧ K (.inl (some (.int v70))) (N70) G70 (kc59 + kc70) (ks59 + ks70)))))))) ∧ (i1_0.toInt = 45 → 9 < N ∧ ∃ (i41_5 : Int32) (i41_6 : Int32) (i41_7 : Int32), G 9 = .inr (.inl (2, [.ref 10, .ref 17, .ref 18, .ref 20, .ref 22, .int i41_5, .int i41_6, .int i41_7])) ∧ 10 < N ∧ ∃ (i42_3 : Int32) (o42_4 : Option Nat), G 10 = .inr (.inl (3, [.ref 11, .ref 13, .ref 16, .int i42_3, va_rf o42_4])) ∧ 11 < N ∧ ∃ (i43_1 : Int32) (i43_2 : Int32), G 11 = .inr (.inl (4, [.ref 12, .int i43_1, .int i43_2])) ∧ cT (8) sM_59 0 [(0, .ref 11), (1, .int 1), (2, .int (i9_2 - i17_2))] [] (N) G (fun r44 N44 G44 kc44 ks44 => ∃ o44 : Option Nat, r44 = .inl (some (va_rf o44)) ∧ ((o44 = none → ((o1_2 = none → 9 < N44 ∧ ∃ (i47_5 : Int32) (i47_6 : Int32) (i47_7 : Int32), G44 9 = .inr (.inl (2, [.ref 10, .ref 17, .ref 18, .ref 20, .ref 22, .int i47_5, .int i47_6, .int i47_7])) ∧ cT (5) sM_93 0 [(0, .ref 9), (1, .null), (2, .null)] [] (N44) G44 (fun r48 N48 G48 kc48 ks48 => ∃ v48 : Int32, r48 = .inl (some (.int v48)) ∧ K (.inl (some (.int v48))) (N48) G48 (kc44 + kc48) (ks44 + ks48))) ∧ (∀ x46, o1_2 = some x46 → 9 < N44 ∧ ∃ (i49_5 : Int32) (i49_6 : Int32) (i49_7 : Int32), G44 9 = .inr (.inl (2, [.ref 10, .ref 17, .ref 18, .ref 20, .ref 22, .int i49_5, .int i49_6, .int i49_7])) ∧ cT (5) sM_93 0 [(0, .ref 9), (1, .ref x46), (2, .null)] [] (N44) G44 (fun r50 N50 G50 kc50 ks50 => ∃ v50 : Int32, r50 = .inl (some (.int v50)) ∧ K (.inl (some (.int v50))) (N50) G50 (kc44 + kc50) (ks44 + ks50))))) ∧ (∀ x45, o44 = some x45 → ((o1_2 = none → 9 < N44 ∧ ∃ (i52_5 : Int32) (i52_6 : Int32) (i52_7 : Int32), G44 9 = .inr (.inl (2, [.ref 10, .ref 17, .ref 18, .ref 20, .ref 22, .int i52_5, .int i52_6, .int i52_7])) ∧ cT (5) sM_93 0 [(0, .ref 9), (1, .null), (2, .ref x45)] [] (N44) G44 (fun r53 N53 G53 kc53 ks53 => ∃ v53 : Int32, r53 = .inl (some (.int v53)) ∧ K (.inl (some (.int v53))) (N53) G53 (kc44 + kc53) (ks44 + ks53))) ∧ (∀ x51, o1_2 = some x51 → 9 < N44 ∧ ∃ (i54_5 : Int32) (i54_6 : Int32) (i54_7 : Int32), G44 9 = .inr (.inl (2, [.ref 10, .ref 17, .ref 18, .ref 20, .ref 22, .int i54_5, .int i54_6, .int i54_7])) ∧ cT (5) sM_93 0 [(0, .ref 9), (1, .ref x51), (2, .ref x45)] [] (N44) G44 (fun r55 N55 G55 kc55 ks55 => ∃ v55 : Int32, r55 = .inl (some (.int v55)) ∧ K (.inl (some (.int v55))) (N55) G55 (kc44 + kc55) (ks44 + ks55)))))))))) ∧ (i1_0.toInt = 43 → 9 < N ∧ ∃ (i25_5 : Int32) (i25_6 : Int32) (i25_7 : Int32), G 9 = .inr (.inl (2, [.ref 10, .ref 17, .ref 18, .ref 20, .ref 22, .int i25_5, .int i25_6, .int i25_7])) ∧ 10 < N ∧ ∃ (i26_3 : Int32) (o26_4 : Option Nat), G 10 = .inr (.inl (3, [.ref 11, .ref 13, .ref 16, .int i26_3, va_rf o26_4])) ∧ 11 < N ∧ ∃ (i27_1 : Int32) (i27_2 : Int32), G 11 = .inr (.inl (4, [.ref 12, .int i27_1, .int i27_2])) ∧ cT (8) sM_59 0 [(0, .ref 11), (1, .int 1), (2, .int (i9_2 + i17_2))] [] (N) G (fun r28 N28 G28 kc28 ks28 => ∃ o28 : Option Nat, r28 = .inl (some (va_rf o28)) ∧ ((o28 = none → ((o1_2 = none → 9 < N28 ∧ ∃ (i31_5 : Int32) (i31_6 : Int32) (i31_7 : Int32), G28 9 = .inr (.inl (2, [.ref 10, .ref 17, .ref 18, .ref 20, .ref 22, .int i31_5, .int i31_6, .int i31_7])) ∧ cT (5) sM_93 0 [(0, .ref 9), (1, .null), (2, .null)] [] (N28) G28 (fun r32 N32 G32 kc32 ks32 => ∃ v32 : Int32, r32 = .inl (some (.int v32)) ∧ K (.inl (some (.int v32))) (N32) G32 (kc28 + kc32) (ks28 + ks32))) ∧ (∀ x30, o1_2 = some x30 → 9 < N28 ∧ ∃ (i33_5 : Int32) (i33_6 : Int32) (i33_7 : Int32), G28 9 = .inr (.inl (2, [.ref 10, .ref 17, .ref 18, .ref 20, .ref 22, .int i33_5, .int i33_6, .int i33_7])) ∧ cT (5) sM_93 0 [(0, .ref 9), (1, .ref x30), (2, .null)] [] (N28) G28 (fun r34 N34 G34 kc34 ks34 => ∃ v34 : Int32, r34 = .inl (some (.int v34)) ∧ K (.inl (some (.int v34))) (N34) G34 (kc28 + kc34) (ks28 + ks34))))) ∧ (∀ x29, o28 = some x29 → ((o1_2 = none → 9 < N28 ∧ ∃ (i36_5 : Int32) (i36_6 : Int32) (i36_7 : Int32), G28 9 = .inr (.inl (2, [.ref 10, .ref 17, .ref 18, .ref 20, .ref 22, .int i36_5, .int i36_6, .int i36_7])) ∧ cT (5) sM_93 0 [(0, .ref 9), (1, .null), (2, .ref x29)] [] (N28) G28 (fun r37 N37 G37 kc37 ks37 => ∃ v37 : Int32, r37 = .inl (some (.int v37)) ∧ K (.inl (some (.int v37))) (N37) G37 (kc28 + kc37) (ks28 + ks37))) ∧ (∀ x35, o1_2 = some x35 → 9 < N28 ∧ ∃ (i38_5 : Int32) (i38_6 : Int32) (i38_7 : Int32), G28 9 = .inr (.inl (2, [.ref 10, .ref 17, .ref 18, .ref 20, .ref 22, .int i38_5, .int i38_6, .int i38_7])) ∧ cT (5) sM_93 0 [(0, .ref 9), (1, .ref x35), (2, .ref x29)] [] (N28) G28 (fun r39 N39 G39 kc39 ks39 => ∃ v39 : Int32, r39 = .inl (some (.int v39)) ∧ K (.inl (some (.int v39))) (N39) G39 (kc28 + kc39) (ks28 + ks39)))))))))) ∧ (i17_1.toInt ≠ 1 → K (.inl (some (.int 1))) (N) G (0) (0)))))) ∧ (i17_1.toInt = 0 → ((i9_1.toInt ≠ 0 → cT (2) sM_89 0 [(0, .ref y1), (1, .ref x16)] [] (N) G (fun r21 N21 G21 kc21 ks21 => r21 = .inl none ∧ K (.inl (some (.int 2))) (N21) G21 (kc21) (ks21))) ∧ (i9_1.toInt = 0 → cT (2) sM_89 0 [(0, .ref y1), (1, .ref x8)] [] (N) G (fun r20 N20 G20 kc20 ks20 => r20 = .inl none ∧ K (.inl (some (.int 2))) (N20) G20 (kc20) (ks20))))))))))))))))))) : cT (9) sM_99 0 [(0, .ref 9), (1, .ref y1)] [] N G K := by
  intro d dc ds P hP
  refine w_mv (pc1 := 1) (st1 := [.ref y1]) rfl rfl rfl ?_
  obtain ⟨b1a, b1b, i1_0, i1_1, o1_2, o1_3, o1_4, i1_6, g1, hh⟩ := hh
  refine cw_gf (v := va_rf o1_3) (pc1 := 4) rfl (by omega) (by omega) g1 rfl rfl ?_
  cases o1_3 with
  | none =>
    replace hh := hh.1 rfl
    exact hh.elim
  | some x2 =>
    replace hh := hh.2 x2 rfl
    obtain ⟨b3a, b3b, i3_1, i3_2, i3_3, o3_4, g3, hh⟩ := hh
    refine w_call (M' := sM_74) (vals := [.ref x2]) (rest := []) (lv' := [(0, .ref x2)]) rfl rfl rfl rfl rfl rfl (cH_rcv (by omega) (by omega) g3) rfl rfl rfl ?_
    refine hh _ _ _ _ (fun r4 N4 G4 kc4 ks4 hh => ?_)
    obtain ⟨eN4, eG4, ek4, es4, hh⟩ := hh
    subst eN4
    subst eG4
    subst ek4
    subst es4
    obtain ⟨o4, er4, hh⟩ := hh
    subst er4
    refine w_kr (pc1 := 7) rfl ?_
    refine w_mv (pc1 := 8) (lv1 := [(2, va_rf o4), (0, .ref 9), (1, .ref y1)]) (st1 := []) rfl rfl (by cases o4 <;> rfl) ?_
    refine w_mv (pc1 := 9) (st1 := [.ref y1]) rfl rfl rfl ?_
    refine cw_gf (v := va_rf o1_4) (pc1 := 12) rfl (by omega) (by omega) g1 rfl rfl ?_
    cases o1_4 with
    | none =>
      replace hh := hh.1 rfl
      exact hh.elim
    | some x5 =>
      replace hh := hh.2 x5 rfl
      obtain ⟨b6a, b6b, i6_1, i6_2, i6_3, o6_4, g6, hh⟩ := hh
      refine w_call (M' := sM_74) (vals := [.ref x5]) (rest := []) (lv' := [(0, .ref x5)]) rfl rfl rfl rfl rfl rfl (cH_rcv (by omega) (by omega) g6) rfl rfl rfl ?_
      refine hh _ _ _ _ (fun r7 N7 G7 kc7 ks7 hh => ?_)
      obtain ⟨eN7, eG7, ek7, es7, hh⟩ := hh
      subst eN7
      subst eG7
      subst ek7
      subst es7
      obtain ⟨o7, er7, hh⟩ := hh
      subst er7
      refine w_kr (pc1 := 15) rfl ?_
      refine w_mv (pc1 := 16) (lv1 := [(3, va_rf o7), (2, va_rf o4), (0, .ref 9), (1, .ref y1)]) (st1 := []) rfl rfl (by cases o7 <;> cases o4 <;> rfl) ?_
      refine w_mv (pc1 := 17) (lv1 := [(3, va_rf o7), (2, va_rf o4), (0, .ref 9), (1, .ref y1)]) (st1 := [va_rf o4]) rfl rfl (by cases o4 <;> rfl) ?_
      cases o4 with
      | none =>
        replace hh := hh.1 rfl
        exact hh.elim
      | some x8 =>
        replace hh := hh.2 x8 rfl
        obtain ⟨b9a, b9b, i9_1, i9_2, i9_3, o9_4, g9, hh⟩ := hh
        refine cw_gf (v := .int i9_1) (pc1 := 20) rfl (by omega) (by omega) g9 rfl rfl ?_
        by_cases h10 : i9_1.toInt = 0
        ·
          replace hh := hh.1 h10
          refine w_zeq_T (pc1 := 30) rfl rfl (show i9_1.toInt = 0 from h10) ?_
          refine w_mv (pc1 := 31) (st1 := [.ref y1]) rfl rfl rfl ?_
          refine w_mv (pc1 := 32) (st1 := [.ref x8, .ref y1]) rfl rfl rfl ?_
          refine cw_gf (v := .int i9_1) (pc1 := 35) rfl (by omega) (by omega) g9 rfl rfl ?_
          by_cases h11 : i9_1.toInt = 0
          ·
            replace hh := hh.2 h11
            refine w_zne_F (pc1 := 38) rfl (by decide) rfl (show i9_1.toInt = 0 from h11) ?_
            refine w_mv (pc1 := 39) (st1 := [.ref x8, .ref y1]) rfl rfl rfl ?_
            refine w_mv (pc1 := 43) (st1 := [.ref x8, .ref y1]) rfl rfl rfl ?_
            refine w_call (M' := sM_89) (vals := [.ref y1, .ref x8]) (rest := []) (lv' := [(0, .ref y1), (1, .ref x8)]) rfl rfl rfl rfl rfl rfl (cH_rcv (by omega) (by omega) g1) rfl rfl rfl ?_
            refine hh _ _ _ _ (fun r12 N12 G12 kc12 ks12 hh => ?_)
            obtain ⟨er12, hh⟩ := hh
            subst er12
            refine w_kv (pc1 := 46) rfl ?_
            refine w_mv (pc1 := 47) (st1 := [.int 2]) rfl rfl rfl ?_
            refine sx_wp.stop rfl rfl rfl ?_
            exact c_acc (hP _ _ _ _ _ hh) (by omega) (by omega)
          ·
            replace hh := hh.1 h11
            refine w_zne_T (pc1 := 42) rfl rfl (show i9_1.toInt ≠ 0 from h11) ?_
            refine w_mv (pc1 := 43) (lv1 := [(3, va_rf o7), (2, .ref x8), (0, .ref 9), (1, .ref y1)]) (st1 := [va_rf o7, .ref y1]) rfl rfl (by cases o7 <;> rfl) ?_
            cases o7 with
            | none =>
              replace hh := hh.1 rfl
              refine w_call (M' := sM_89) (vals := [.ref y1, .null]) (rest := []) (lv' := [(0, .ref y1), (1, .null)]) rfl rfl rfl rfl rfl rfl (cH_rcv (by omega) (by omega) g1) rfl rfl rfl ?_
              refine hh _ _ _ _ (fun r14 N14 G14 kc14 ks14 hh => ?_)
              obtain ⟨er14, hh⟩ := hh
              subst er14
              refine w_kv (pc1 := 46) rfl ?_
              refine w_mv (pc1 := 47) (st1 := [.int 2]) rfl rfl rfl ?_
              refine sx_wp.stop rfl rfl rfl ?_
              exact c_acc (hP _ _ _ _ _ hh) (by omega) (by omega)
            | some x13 =>
              replace hh := hh.2 x13 rfl
              refine w_call (M' := sM_89) (vals := [.ref y1, .ref x13]) (rest := []) (lv' := [(0, .ref y1), (1, .ref x13)]) rfl rfl rfl rfl rfl rfl (cH_rcv (by omega) (by omega) g1) rfl rfl rfl ?_
              refine hh _ _ _ _ (fun r15 N15 G15 kc15 ks15 hh => ?_)
              obtain ⟨er15, hh⟩ := hh
              subst er15
              refine w_kv (pc1 := 46) rfl ?_
              refine w_mv (pc1 := 47) (st1 := [.int 2]) rfl rfl rfl ?_
              refine sx_wp.stop rfl rfl rfl ?_
              exact c_acc (hP _ _ _ _ _ hh) (by omega) (by omega)
        ·
          replace hh := hh.2 h10
          refine w_zeq_F (pc1 := 23) rfl (by decide) rfl (show i9_1.toInt ≠ 0 from h10) ?_
          refine w_mv (pc1 := 24) (lv1 := [(3, va_rf o7), (2, .ref x8), (0, .ref 9), (1, .ref y1)]) (st1 := [va_rf o7]) rfl rfl (by cases o7 <;> rfl) ?_
          cases o7 with
          | none =>
            replace hh := hh.1 rfl
            exact hh.elim
          | some x16 =>
            replace hh := hh.2 x16 rfl
            obtain ⟨b17a, b17b, i17_1, i17_2, i17_3, o17_4, g17, hh⟩ := hh
            refine cw_gf (v := .int i17_1) (pc1 := 27) rfl (by omega) (by omega) g17 rfl rfl ?_
            by_cases h18 : i17_1.toInt = 0
            ·
              replace hh := hh.2 h18
              refine w_zne_F (pc1 := 30) rfl (by decide) rfl (show i17_1.toInt = 0 from h18) ?_
              refine w_mv (pc1 := 31) (st1 := [.ref y1]) rfl rfl rfl ?_
              refine w_mv (pc1 := 32) (st1 := [.ref x8, .ref y1]) rfl rfl rfl ?_
              refine cw_gf (v := .int i9_1) (pc1 := 35) rfl (by omega) (by omega) g9 rfl rfl ?_
              by_cases h19 : i9_1.toInt = 0
              ·
                replace hh := hh.2 h19
                refine w_zne_F (pc1 := 38) rfl (by decide) rfl (show i9_1.toInt = 0 from h19) ?_
                refine w_mv (pc1 := 39) (st1 := [.ref x8, .ref y1]) rfl rfl rfl ?_
                refine w_mv (pc1 := 43) (st1 := [.ref x8, .ref y1]) rfl rfl rfl ?_
                refine w_call (M' := sM_89) (vals := [.ref y1, .ref x8]) (rest := []) (lv' := [(0, .ref y1), (1, .ref x8)]) rfl rfl rfl rfl rfl rfl (cH_rcv (by omega) (by omega) g1) rfl rfl rfl ?_
                refine hh _ _ _ _ (fun r20 N20 G20 kc20 ks20 hh => ?_)
                obtain ⟨er20, hh⟩ := hh
                subst er20
                refine w_kv (pc1 := 46) rfl ?_
                refine w_mv (pc1 := 47) (st1 := [.int 2]) rfl rfl rfl ?_
                refine sx_wp.stop rfl rfl rfl ?_
                exact c_acc (hP _ _ _ _ _ hh) (by omega) (by omega)
              ·
                replace hh := hh.1 h19
                refine w_zne_T (pc1 := 42) rfl rfl (show i9_1.toInt ≠ 0 from h19) ?_
                refine w_mv (pc1 := 43) (st1 := [.ref x16, .ref y1]) rfl rfl rfl ?_
                refine w_call (M' := sM_89) (vals := [.ref y1, .ref x16]) (rest := []) (lv' := [(0, .ref y1), (1, .ref x16)]) rfl rfl rfl rfl rfl rfl (cH_rcv (by omega) (by omega) g1) rfl rfl rfl ?_
                refine hh _ _ _ _ (fun r21 N21 G21 kc21 ks21 hh => ?_)
                obtain ⟨er21, hh⟩ := hh
                subst er21
                refine w_kv (pc1 := 46) rfl ?_
                refine w_mv (pc1 := 47) (st1 := [.int 2]) rfl rfl rfl ?_
                refine sx_wp.stop rfl rfl rfl ?_
                exact c_acc (hP _ _ _ _ _ hh) (by omega) (by omega)
            ·
              replace hh := hh.1 h18
              refine w_zne_T (pc1 := 48) rfl rfl (show i17_1.toInt ≠ 0 from h18) ?_
              refine w_mv (pc1 := 49) (st1 := [.ref x8]) rfl rfl rfl ?_
              refine cw_gf (v := .int i9_1) (pc1 := 52) rfl (by omega) (by omega) g9 rfl rfl ?_
              refine w_mv (pc1 := 53) (st1 := [.int 1, .int i9_1]) rfl rfl rfl ?_
              by_cases h22 : i9_1.toInt = 1
              ·
                replace hh := hh.2 h22
                refine w_ine_F (pc1 := 56) rfl (by decide) rfl (show i9_1.toInt = 1 from h22) ?_
                refine w_mv (pc1 := 57) (st1 := [.ref x16]) rfl rfl rfl ?_
                refine cw_gf (v := .int i17_1) (pc1 := 60) rfl (by omega) (by omega) g17 rfl rfl ?_
                refine w_mv (pc1 := 61) (st1 := [.int 1, .int i17_1]) rfl rfl rfl ?_
                by_cases h23 : i17_1.toInt = 1
                ·
                  replace hh := hh.1 h23
                  refine w_ieq_T (pc1 := 66) rfl rfl (show i17_1.toInt = 1 from h23) ?_
                  refine w_mv (pc1 := 67) (st1 := [.ref y1]) rfl rfl rfl ?_
                  refine cw_gf (v := .int i1_0) (pc1 := 70) rfl (by omega) (by omega) g1 rfl rfl ?_
                  refine w_mv (pc1 := 71) (st1 := [.ref x8, .int i1_0]) rfl rfl rfl ?_
                  refine cw_gf (v := .int i9_2) (pc1 := 74) rfl (by omega) (by omega) g9 rfl rfl ?_
                  refine w_mv (pc1 := 75) (st1 := [.ref x16, .int i9_2, .int i1_0]) rfl rfl rfl ?_
                  refine cw_gf (v := .int i17_2) (pc1 := 78) rfl (by omega) (by omega) g17 rfl rfl ?_
                  refine w_call (M' := sM_100) (vals := [.int i1_0, .int i9_2, .int i17_2]) (rest := []) (lv' := [(0, .int i1_0), (1, .int i9_2), (2, .int i17_2)]) rfl rfl rfl rfl rfl rfl rfl rfl rfl rfl ?_
                  refine w_mv (pc1 := 1) (st1 := [.int i1_0]) rfl rfl rfl ?_
                  refine w_mv (pc1 := 3) (st1 := [.int 43, .int i1_0]) rfl rfl rfl ?_
                  by_cases h24 : i1_0.toInt = 43
                  ·
                    replace hh := hh.2 h24
                    refine w_ine_F (pc1 := 6) rfl (by decide) rfl (show i1_0.toInt = 43 from h24) ?_
                    refine w_mv (pc1 := 7) (st1 := [.int i9_2]) rfl rfl rfl ?_
                    refine w_mv (pc1 := 8) (st1 := [.int i17_2, .int i9_2]) rfl rfl rfl ?_
                    refine w_mv (pc1 := 9) (st1 := [.int (i9_2 + i17_2)]) rfl rfl rfl ?_
                    refine w_iret (pc1 := 81) rfl rfl rfl rfl ?_
                    refine w_mv (pc1 := 83) (lv1 := [(4, .int (i9_2 + i17_2)), (3, .ref x16), (2, .ref x8), (0, .ref 9), (1, .ref y1)]) (st1 := []) rfl rfl rfl ?_
                    refine w_mv (pc1 := 84) (st1 := [.ref 9]) rfl rfl rfl ?_
                    refine w_mv (pc1 := 85) (st1 := [.ref y1, .ref 9]) rfl rfl rfl ?_
                    refine cw_gf (v := va_rf o1_2) (pc1 := 88) rfl (by omega) (by omega) g1 rfl rfl ?_
                    refine w_mv (pc1 := 89) (st1 := [.ref 9, va_rf o1_2, .ref 9]) rfl rfl rfl ?_
                    obtain ⟨b25b, i25_5, i25_6, i25_7, g25, hh⟩ := hh
                    refine cw_gf (v := .ref 10) (pc1 := 92) rfl (by omega) (by omega) g25 rfl rfl ?_
                    obtain ⟨b26b, i26_3, o26_4, g26, hh⟩ := hh
                    refine cw_gf (v := .ref 11) (pc1 := 95) rfl (by omega) (by omega) g26 rfl rfl ?_
                    refine w_mv (pc1 := 96) (st1 := [.int 1, .ref 11, va_rf o1_2, .ref 9]) rfl rfl rfl ?_
                    refine w_mv (pc1 := 98) (st1 := [.int (i9_2 + i17_2), .int 1, .ref 11, va_rf o1_2, .ref 9]) rfl rfl rfl ?_
                    obtain ⟨b27b, i27_1, i27_2, g27, hh⟩ := hh
                    refine w_call (M' := sM_59) (vals := [.ref 11, .int 1, .int (i9_2 + i17_2)]) (rest := [va_rf o1_2, .ref 9]) (lv' := [(0, .ref 11), (1, .int 1), (2, .int (i9_2 + i17_2))]) rfl rfl rfl rfl rfl rfl (cH_rcv (by omega) (by omega) g27) (by cases o1_2 <;> rfl) rfl rfl ?_
                    refine hh _ _ _ _ (fun r28 N28 G28 kc28 ks28 hh => ?_)
                    obtain ⟨o28, er28, hh⟩ := hh
                    subst er28
                    refine w_kr (pc1 := 101) rfl ?_
                    cases o28 with
                    | none =>
                      replace hh := hh.1 rfl
                      cases o1_2 with
                      | none =>
                        replace hh := hh.1 rfl
                        obtain ⟨b31b, i31_5, i31_6, i31_7, g31, hh⟩ := hh
                        refine w_call (M' := sM_93) (vals := [.ref 9, .null, .null]) (rest := []) (lv' := [(0, .ref 9), (1, .null), (2, .null)]) rfl rfl rfl rfl rfl rfl (cH_rcv (by omega) (by omega) g31) rfl rfl rfl ?_
                        refine hh _ _ _ _ (fun r32 N32 G32 kc32 ks32 hh => ?_)
                        obtain ⟨v32, er32, hh⟩ := hh
                        subst er32
                        refine w_ki (pc1 := 104) rfl ?_
                        refine sx_wp.stop rfl rfl rfl ?_
                        exact c_acc (hP _ _ _ _ _ hh) (by omega) (by omega)
                      | some x30 =>
                        replace hh := hh.2 x30 rfl
                        obtain ⟨b33b, i33_5, i33_6, i33_7, g33, hh⟩ := hh
                        refine w_call (M' := sM_93) (vals := [.ref 9, .ref x30, .null]) (rest := []) (lv' := [(0, .ref 9), (1, .ref x30), (2, .null)]) rfl rfl rfl rfl rfl rfl (cH_rcv (by omega) (by omega) g33) rfl rfl rfl ?_
                        refine hh _ _ _ _ (fun r34 N34 G34 kc34 ks34 hh => ?_)
                        obtain ⟨v34, er34, hh⟩ := hh
                        subst er34
                        refine w_ki (pc1 := 104) rfl ?_
                        refine sx_wp.stop rfl rfl rfl ?_
                        exact c_acc (hP _ _ _ _ _ hh) (by omega) (by omega)
                    | some x29 =>
                      replace hh := hh.2 x29 rfl
                      cases o1_2 with
                      | none =>
                        replace hh := hh.1 rfl
                        obtain ⟨b36b, i36_5, i36_6, i36_7, g36, hh⟩ := hh
                        refine w_call (M' := sM_93) (vals := [.ref 9, .null, .ref x29]) (rest := []) (lv' := [(0, .ref 9), (1, .null), (2, .ref x29)]) rfl rfl rfl rfl rfl rfl (cH_rcv (by omega) (by omega) g36) rfl rfl rfl ?_
                        refine hh _ _ _ _ (fun r37 N37 G37 kc37 ks37 hh => ?_)
                        obtain ⟨v37, er37, hh⟩ := hh
                        subst er37
                        refine w_ki (pc1 := 104) rfl ?_
                        refine sx_wp.stop rfl rfl rfl ?_
                        exact c_acc (hP _ _ _ _ _ hh) (by omega) (by omega)
                      | some x35 =>
                        replace hh := hh.2 x35 rfl
                        obtain ⟨b38b, i38_5, i38_6, i38_7, g38, hh⟩ := hh
                        refine w_call (M' := sM_93) (vals := [.ref 9, .ref x35, .ref x29]) (rest := []) (lv' := [(0, .ref 9), (1, .ref x35), (2, .ref x29)]) rfl rfl rfl rfl rfl rfl (cH_rcv (by omega) (by omega) g38) rfl rfl rfl ?_
                        refine hh _ _ _ _ (fun r39 N39 G39 kc39 ks39 hh => ?_)
                        obtain ⟨v39, er39, hh⟩ := hh
                        subst er39
                        refine w_ki (pc1 := 104) rfl ?_
                        refine sx_wp.stop rfl rfl rfl ?_
                        exact c_acc (hP _ _ _ _ _ hh) (by omega) (by omega)
                  ·
                    replace hh := hh.1 h24
                    refine w_ine_T (pc1 := 10) rfl rfl (show i1_0.toInt ≠ 43 from h24) ?_
                    refine w_mv (pc1 := 11) (st1 := [.int i1_0]) rfl rfl rfl ?_
                    refine w_mv (pc1 := 13) (st1 := [.int 45, .int i1_0]) rfl rfl rfl ?_
                    by_cases h40 : i1_0.toInt = 45
                    ·
                      replace hh := hh.2 h40
                      refine w_ine_F (pc1 := 16) rfl (by decide) rfl (show i1_0.toInt = 45 from h40) ?_
                      refine w_mv (pc1 := 17) (st1 := [.int i9_2]) rfl rfl rfl ?_
                      refine w_mv (pc1 := 18) (st1 := [.int i17_2, .int i9_2]) rfl rfl rfl ?_
                      refine w_mv (pc1 := 19) (st1 := [.int (i9_2 - i17_2)]) rfl rfl rfl ?_
                      refine w_mv (pc1 := 25) (st1 := [.int (i9_2 - i17_2)]) rfl rfl rfl ?_
                      refine w_iret (pc1 := 81) rfl rfl rfl rfl ?_
                      refine w_mv (pc1 := 83) (lv1 := [(4, .int (i9_2 - i17_2)), (3, .ref x16), (2, .ref x8), (0, .ref 9), (1, .ref y1)]) (st1 := []) rfl rfl rfl ?_
                      refine w_mv (pc1 := 84) (st1 := [.ref 9]) rfl rfl rfl ?_
                      refine w_mv (pc1 := 85) (st1 := [.ref y1, .ref 9]) rfl rfl rfl ?_
                      refine cw_gf (v := va_rf o1_2) (pc1 := 88) rfl (by omega) (by omega) g1 rfl rfl ?_
                      refine w_mv (pc1 := 89) (st1 := [.ref 9, va_rf o1_2, .ref 9]) rfl rfl rfl ?_
                      obtain ⟨b41b, i41_5, i41_6, i41_7, g41, hh⟩ := hh
                      refine cw_gf (v := .ref 10) (pc1 := 92) rfl (by omega) (by omega) g41 rfl rfl ?_
                      obtain ⟨b42b, i42_3, o42_4, g42, hh⟩ := hh
                      refine cw_gf (v := .ref 11) (pc1 := 95) rfl (by omega) (by omega) g42 rfl rfl ?_
                      refine w_mv (pc1 := 96) (st1 := [.int 1, .ref 11, va_rf o1_2, .ref 9]) rfl rfl rfl ?_
                      refine w_mv (pc1 := 98) (st1 := [.int (i9_2 - i17_2), .int 1, .ref 11, va_rf o1_2, .ref 9]) rfl rfl rfl ?_
                      obtain ⟨b43b, i43_1, i43_2, g43, hh⟩ := hh
                      refine w_call (M' := sM_59) (vals := [.ref 11, .int 1, .int (i9_2 - i17_2)]) (rest := [va_rf o1_2, .ref 9]) (lv' := [(0, .ref 11), (1, .int 1), (2, .int (i9_2 - i17_2))]) rfl rfl rfl rfl rfl rfl (cH_rcv (by omega) (by omega) g43) (by cases o1_2 <;> rfl) rfl rfl ?_
                      refine hh _ _ _ _ (fun r44 N44 G44 kc44 ks44 hh => ?_)
                      obtain ⟨o44, er44, hh⟩ := hh
                      subst er44
                      refine w_kr (pc1 := 101) rfl ?_
                      cases o44 with
                      | none =>
                        replace hh := hh.1 rfl
                        cases o1_2 with
                        | none =>
                          replace hh := hh.1 rfl
                          obtain ⟨b47b, i47_5, i47_6, i47_7, g47, hh⟩ := hh
                          refine w_call (M' := sM_93) (vals := [.ref 9, .null, .null]) (rest := []) (lv' := [(0, .ref 9), (1, .null), (2, .null)]) rfl rfl rfl rfl rfl rfl (cH_rcv (by omega) (by omega) g47) rfl rfl rfl ?_
                          refine hh _ _ _ _ (fun r48 N48 G48 kc48 ks48 hh => ?_)
                          obtain ⟨v48, er48, hh⟩ := hh
                          subst er48
                          refine w_ki (pc1 := 104) rfl ?_
                          refine sx_wp.stop rfl rfl rfl ?_
                          exact c_acc (hP _ _ _ _ _ hh) (by omega) (by omega)
                        | some x46 =>
                          replace hh := hh.2 x46 rfl
                          obtain ⟨b49b, i49_5, i49_6, i49_7, g49, hh⟩ := hh
                          refine w_call (M' := sM_93) (vals := [.ref 9, .ref x46, .null]) (rest := []) (lv' := [(0, .ref 9), (1, .ref x46), (2, .null)]) rfl rfl rfl rfl rfl rfl (cH_rcv (by omega) (by omega) g49) rfl rfl rfl ?_
                          refine hh _ _ _ _ (fun r50 N50 G50 kc50 ks50 hh => ?_)
                          obtain ⟨v50, er50, hh⟩ := hh
                          subst er50
                          refine w_ki (pc1 := 104) rfl ?_
                          refine sx_wp.stop rfl rfl rfl ?_
                          exact c_acc (hP _ _ _ _ _ hh) (by omega) (by omega)
                      | some x45 =>
                        replace hh := hh.2 x45 rfl
                        cases o1_2 with
                        | none =>
                          replace hh := hh.1 rfl
                          obtain ⟨b52b, i52_5, i52_6, i52_7, g52, hh⟩ := hh
                          refine w_call (M' := sM_93) (vals := [.ref 9, .null, .ref x45]) (rest := []) (lv' := [(0, .ref 9), (1, .null), (2, .ref x45)]) rfl rfl rfl rfl rfl rfl (cH_rcv (by omega) (by omega) g52) rfl rfl rfl ?_
                          refine hh _ _ _ _ (fun r53 N53 G53 kc53 ks53 hh => ?_)
                          obtain ⟨v53, er53, hh⟩ := hh
                          subst er53
                          refine w_ki (pc1 := 104) rfl ?_
                          refine sx_wp.stop rfl rfl rfl ?_
                          exact c_acc (hP _ _ _ _ _ hh) (by omega) (by omega)
                        | some x51 =>
                          replace hh := hh.2 x51 rfl
                          obtain ⟨b54b, i54_5, i54_6, i54_7, g54, hh⟩ := hh
                          refine w_call (M' := sM_93) (vals := [.ref 9, .ref x51, .ref x45]) (rest := []) (lv' := [(0, .ref 9), (1, .ref x51), (2, .ref x45)]) rfl rfl rfl rfl rfl rfl (cH_rcv (by omega) (by omega) g54) rfl rfl rfl ?_
                          refine hh _ _ _ _ (fun r55 N55 G55 kc55 ks55 hh => ?_)
                          obtain ⟨v55, er55, hh⟩ := hh
                          subst er55
                          refine w_ki (pc1 := 104) rfl ?_
                          refine sx_wp.stop rfl rfl rfl ?_
                          exact c_acc (hP _ _ _ _ _ hh) (by omega) (by omega)
                    ·
                      replace hh := hh.1 h40
                      refine w_ine_T (pc1 := 22) rfl rfl (show i1_0.toInt ≠ 45 from h40) ?_
                      refine w_mv (pc1 := 23) (st1 := [.int i9_2]) rfl rfl rfl ?_
                      refine w_mv (pc1 := 24) (st1 := [.int i17_2, .int i9_2]) rfl rfl rfl ?_
                      refine w_mv (pc1 := 25) (st1 := [.int (i9_2 * i17_2)]) rfl rfl rfl ?_
                      refine w_iret (pc1 := 81) rfl rfl rfl rfl ?_
                      refine w_mv (pc1 := 83) (lv1 := [(4, .int (i9_2 * i17_2)), (3, .ref x16), (2, .ref x8), (0, .ref 9), (1, .ref y1)]) (st1 := []) rfl rfl rfl ?_
                      refine w_mv (pc1 := 84) (st1 := [.ref 9]) rfl rfl rfl ?_
                      refine w_mv (pc1 := 85) (st1 := [.ref y1, .ref 9]) rfl rfl rfl ?_
                      refine cw_gf (v := va_rf o1_2) (pc1 := 88) rfl (by omega) (by omega) g1 rfl rfl ?_
                      refine w_mv (pc1 := 89) (st1 := [.ref 9, va_rf o1_2, .ref 9]) rfl rfl rfl ?_
                      obtain ⟨b56b, i56_5, i56_6, i56_7, g56, hh⟩ := hh
                      refine cw_gf (v := .ref 10) (pc1 := 92) rfl (by omega) (by omega) g56 rfl rfl ?_
                      obtain ⟨b57b, i57_3, o57_4, g57, hh⟩ := hh
                      refine cw_gf (v := .ref 11) (pc1 := 95) rfl (by omega) (by omega) g57 rfl rfl ?_
                      refine w_mv (pc1 := 96) (st1 := [.int 1, .ref 11, va_rf o1_2, .ref 9]) rfl rfl rfl ?_
                      refine w_mv (pc1 := 98) (st1 := [.int (i9_2 * i17_2), .int 1, .ref 11, va_rf o1_2, .ref 9]) rfl rfl rfl ?_
                      obtain ⟨b58b, i58_1, i58_2, g58, hh⟩ := hh
                      refine w_call (M' := sM_59) (vals := [.ref 11, .int 1, .int (i9_2 * i17_2)]) (rest := [va_rf o1_2, .ref 9]) (lv' := [(0, .ref 11), (1, .int 1), (2, .int (i9_2 * i17_2))]) rfl rfl rfl rfl rfl rfl (cH_rcv (by omega) (by omega) g58) (by cases o1_2 <;> rfl) rfl rfl ?_
                      refine hh _ _ _ _ (fun r59 N59 G59 kc59 ks59 hh => ?_)
                      obtain ⟨o59, er59, hh⟩ := hh
                      subst er59
                      refine w_kr (pc1 := 101) rfl ?_
                      cases o59 with
                      | none =>
                        replace hh := hh.1 rfl
                        cases o1_2 with
                        | none =>
                          replace hh := hh.1 rfl
                          obtain ⟨b62b, i62_5, i62_6, i62_7, g62, hh⟩ := hh
                          refine w_call (M' := sM_93) (vals := [.ref 9, .null, .null]) (rest := []) (lv' := [(0, .ref 9), (1, .null), (2, .null)]) rfl rfl rfl rfl rfl rfl (cH_rcv (by omega) (by omega) g62) rfl rfl rfl ?_
                          refine hh _ _ _ _ (fun r63 N63 G63 kc63 ks63 hh => ?_)
                          obtain ⟨v63, er63, hh⟩ := hh
                          subst er63
                          refine w_ki (pc1 := 104) rfl ?_
                          refine sx_wp.stop rfl rfl rfl ?_
                          exact c_acc (hP _ _ _ _ _ hh) (by omega) (by omega)
                        | some x61 =>
                          replace hh := hh.2 x61 rfl
                          obtain ⟨b64b, i64_5, i64_6, i64_7, g64, hh⟩ := hh
                          refine w_call (M' := sM_93) (vals := [.ref 9, .ref x61, .null]) (rest := []) (lv' := [(0, .ref 9), (1, .ref x61), (2, .null)]) rfl rfl rfl rfl rfl rfl (cH_rcv (by omega) (by omega) g64) rfl rfl rfl ?_
                          refine hh _ _ _ _ (fun r65 N65 G65 kc65 ks65 hh => ?_)
                          obtain ⟨v65, er65, hh⟩ := hh
                          subst er65
                          refine w_ki (pc1 := 104) rfl ?_
                          refine sx_wp.stop rfl rfl rfl ?_
                          exact c_acc (hP _ _ _ _ _ hh) (by omega) (by omega)
                      | some x60 =>
                        replace hh := hh.2 x60 rfl
                        cases o1_2 with
                        | none =>
                          replace hh := hh.1 rfl
                          obtain ⟨b67b, i67_5, i67_6, i67_7, g67, hh⟩ := hh
                          refine w_call (M' := sM_93) (vals := [.ref 9, .null, .ref x60]) (rest := []) (lv' := [(0, .ref 9), (1, .null), (2, .ref x60)]) rfl rfl rfl rfl rfl rfl (cH_rcv (by omega) (by omega) g67) rfl rfl rfl ?_
                          refine hh _ _ _ _ (fun r68 N68 G68 kc68 ks68 hh => ?_)
                          obtain ⟨v68, er68, hh⟩ := hh
                          subst er68
                          refine w_ki (pc1 := 104) rfl ?_
                          refine sx_wp.stop rfl rfl rfl ?_
                          exact c_acc (hP _ _ _ _ _ hh) (by omega) (by omega)
                        | some x66 =>
                          replace hh := hh.2 x66 rfl
                          obtain ⟨b69b, i69_5, i69_6, i69_7, g69, hh⟩ := hh
                          refine w_call (M' := sM_93) (vals := [.ref 9, .ref x66, .ref x60]) (rest := []) (lv' := [(0, .ref 9), (1, .ref x66), (2, .ref x60)]) rfl rfl rfl rfl rfl rfl (cH_rcv (by omega) (by omega) g69) rfl rfl rfl ?_
                          refine hh _ _ _ _ (fun r70 N70 G70 kc70 ks70 hh => ?_)
                          obtain ⟨v70, er70, hh⟩ := hh
                          subst er70
                          refine w_ki (pc1 := 104) rfl ?_
                          refine sx_wp.stop rfl rfl rfl ?_
                          exact c_acc (hP _ _ _ _ _ hh) (by omega) (by omega)
                ·
                  replace hh := hh.2 h23
                  refine w_ieq_F (pc1 := 64) rfl (by decide) rfl (show i17_1.toInt ≠ 1 from h23) ?_
                  refine w_mv (pc1 := 65) (st1 := [.int 1]) rfl rfl rfl ?_
                  refine sx_wp.stop rfl rfl rfl ?_
                  exact c_acc (hP _ _ _ _ _ hh) (by omega) (by omega)
              ·
                replace hh := hh.1 h22
                refine w_ine_T (pc1 := 64) rfl rfl (show i9_1.toInt ≠ 1 from h22) ?_
                refine w_mv (pc1 := 65) (st1 := [.int 1]) rfl rfl rfl ?_
                refine sx_wp.stop rfl rfl rfl ?_
                exact c_acc (hP _ _ _ _ _ hh) (by omega) (by omega)
set_option maxRecDepth 20000 in
set_option maxHeartbeats 4000000 in
theorem k_102_0 {p1 : Int32} {p2 : Int32} {N : Nat} {G : Nat → sx_C} {K : Option Value ⊕ Nat → Nat → (Nat → sx_C) → Nat → Nat → Prop} (hh : ((p1.toInt < 0 → K (.inr (N)) (N + 1) (va_up G N (.inr (.inr 0))) (1) (6)) ∧ (0 ≤ p1.toInt → ((p1.toInt < 26 → 5 < N ∧ ∃ (i3_1 : Int32), G 5 = .inr (.inl (0, [.ref 6, .int i3_1, .ref 8, .ref 9, .ref 31])) ∧ 9 < N ∧ ∃ (i4_5 : Int32) (i4_6 : Int32) (i4_7 : Int32), G 9 = .inr (.inl (2, [.ref 10, .ref 17, .ref 18, .ref 20, .ref 22, .int i4_5, .int i4_6, .int i4_7])) ∧ ((p1.toInt < 0 → K (.inr (N)) (N + 1) (va_up G N (.inr (.inr 3))) (1) (6)) ∧ (0 ≤ p1.toInt → ((26 ≤ p1.toInt → K (.inr (N)) (N + 1) (va_up G N (.inr (.inr 3))) (1) (6)) ∧ (p1.toInt < 26 → 22 < N ∧ ∃ (f7 : Nat → Option Nat), G 22 = .inl (6, (26, .inr (.inr (.inr (.inr f7))))) ∧ 0 ≤ p1.toInt ∧ p1.toInt < (26 : Nat) ∧ ∀ o9, o9 = f7 p1.toNatClampNeg → ((o9 = none → K (.inr (N)) (N + 1) (va_up G N (.inr (.inr 3))) (1) (6)) ∧ (∀ x10, o9 = some x10 → 31 < N ∧ ∃ (r11_0 : Nat) (i11_1 : Int32) (i11_2 : Int32) (i11_3 : Int32), G 31 = .inr (.inl (14, [.ref r11_0, .int i11_1, .int i11_2, .int i11_3])) ∧ cT (11) sM_181 0 [(0, .ref 31), (1, .int 0)] [] (N) G (fun r12 N12 G12 kc12 ks12 => r12 = .inl none ∧ 5 < N12 ∧ ∃ (i13_1 : Int32), G12 5 = .inr (.inl (0, [.ref 6, .int i13_1, .ref 8, .ref 9, .ref 31])) ∧ cT (400) sM_104 0 [(0, .ref 5), (1, .ref x10), (2, .int 1)] [] (N12) G12 (fun r14 N14 G14 kc14 ks14 => r14 = .inl none ∧ 5 < N14 ∧ ∃ (i15_1 : Int32), G14 5 = .inr (.inl (0, [.ref 6, .int i15_1, .ref 8, .ref 9, .ref 31])) ∧ 31 < N14 ∧ ∃ (r16_0 : Nat) (i16_1 : Int32) (i16_2 : Int32) (i16_3 : Int32), G14 31 = .inr (.inl (14, [.ref r16_0, .int i16_1, .int i16_2, .int i16_3])) ∧ ((80 < i16_3.toInt → ((p2.toInt ≠ (-1) → ((p2.toInt < 0 → K (.inr (N14)) (N14 + 1) (va_up G14 N14 (.inr (.inr 3))) (kc12 + kc14 + 1) (ks12 + ks14 + 6)) ∧ (0 ≤ p2.toInt → ((p2.toInt < 80 → cT (4) sM_198 0 [(0, .ref 31), (1, .int p2)] [] (N14) G14 (fun r21 N21 G21 kc21 ks21 => ∃ v21 : Int32, r21 = .inl (some (.int v21)) ∧ K (.inl (some (.int v21))) (N21) G21 (kc12 + kc14 + kc21) (ks12 + ks14 + ks21))) ∧ (80 ≤ p2.toInt → K (.inr (N14)) (N14 + 1) (va_up G14 N14 (.inr (.inr 3))) (kc12 + kc14 + 1) (ks12 + ks14 + 6)))))) ∧ (p2.toInt = (-1) → K (.inl (some (.int 80))) (N14) G14 (kc12 + kc14) (ks12 + ks14)))) ∧ (i16_3.toInt ≤ 80 → ((p2.toInt ≠ (-1) → ((p2.toInt < 0 → K (.inr (N14)) (N14 + 1) (va_up G14 N14 (.inr (.inr 3))) (kc12 + kc14 + 1) (ks12 + ks14 + 6)) ∧ (0 ≤ p2.toInt → ((p2.toInt < i16_3.toInt → cT (4) sM_198 0 [(0, .ref 31), (1, .int p2)] [] (N14) G14 (fun r25 N25 G25 kc25 ks25 => ∃ v25 : Int32, r25 = .inl (some (.int v25)) ∧ K (.inl (some (.int v25))) (N25) G25 (kc12 + kc14 + kc25) (ks12 + ks14 + ks25))) ∧ (i16_3.toInt ≤ p2.toInt → K (.inr (N14)) (N14 + 1) (va_up G14 N14 (.inr (.inr 3))) (kc12 + kc14 + 1) (ks12 + ks14 + 6)))))) ∧ (p2.toInt = (-1) → K (.inl (some (.int i16_3))) (N14) G14 (kc12 + kc14) (ks12 + ks14)))))))))))))) ∧ (26 ≤ p1.toInt → K (.inr (N)) (N + 1) (va_up G N (.inr (.inr 0))) (1) (6)))))) : cT (401) sM_102 0 [(0, .ref 5), (1, .int p1), (2, .int p2)] [] N G K := by
  intro d dc ds P hP
  refine w_mv (pc1 := 1) (st1 := [.int p1]) rfl rfl rfl ?_
  by_cases h1 : p1.toInt < 0
  ·
    replace hh := hh.1 h1
    refine w_zlt_T (pc1 := 10) rfl rfl (show p1.toInt < 0 from h1) ?_
    refine cw_thr rfl rfl (by omega) (Nat.le_of_ble_eq_true rfl) ?_
    exact c_acc (hP _ _ _ _ _ hh) (by omega) (by omega)
  ·
    replace hh := hh.2 (Int.not_lt.mp h1)
    refine w_zlt_F (pc1 := 4) rfl (by decide) rfl (show 0 ≤ p1.toInt from (Int.not_lt.mp h1)) ?_
    refine w_mv (pc1 := 5) (st1 := [.int p1]) rfl rfl rfl ?_
    refine w_mv (pc1 := 7) (st1 := [.int 26, .int p1]) rfl rfl rfl ?_
    by_cases h2 : p1.toInt < 26
    ·
      replace hh := hh.1 h2
      refine w_ilt_T (pc1 := 18) rfl rfl (show p1.toInt < 26 from h2) ?_
      refine w_mv (pc1 := 19) (st1 := [.ref 5]) rfl rfl rfl ?_
      obtain ⟨b3b, i3_1, g3, hh⟩ := hh
      refine cw_gf (v := .ref 9) (pc1 := 22) rfl (by omega) (by omega) g3 rfl rfl ?_
      refine w_mv (pc1 := 23) (st1 := [.int p1, .ref 9]) rfl rfl rfl ?_
      obtain ⟨b4b, i4_5, i4_6, i4_7, g4, hh⟩ := hh
      refine w_call (M' := sM_103) (vals := [.ref 9, .int p1]) (rest := []) (lv' := [(0, .ref 9), (1, .int p1)]) rfl rfl rfl rfl rfl rfl (cH_rcv (by omega) (by omega) g4) rfl rfl rfl ?_
      refine w_mv (pc1 := 1) (st1 := [.int p1]) rfl rfl rfl ?_
      by_cases h5 : p1.toInt < 0
      ·
        replace hh := hh.1 h5
        refine w_zlt_T (pc1 := 19) rfl rfl (show p1.toInt < 0 from h5) ?_
        refine w_mv (pc1 := 20) (st1 := [.null]) rfl rfl rfl ?_
        refine w_nret (pc1 := 26) rfl rfl rfl rfl ?_
        refine w_mv (pc1 := 27) (lv1 := [(3, .null), (0, .ref 5), (1, .int p1), (2, .int p2)]) (st1 := []) rfl rfl rfl ?_
        refine w_mv (pc1 := 28) (st1 := [.null]) rfl rfl rfl ?_
        refine w_mv (pc1 := 31) (st1 := []) rfl rfl rfl ?_
        refine cw_thr rfl rfl (by omega) (Nat.le_of_ble_eq_true rfl) ?_
        exact c_acc (hP _ _ _ _ _ hh) (by omega) (by omega)
      ·
        replace hh := hh.2 (Int.not_lt.mp h5)
        refine w_zlt_F (pc1 := 4) rfl (by decide) rfl (show 0 ≤ p1.toInt from (Int.not_lt.mp h5)) ?_
        refine w_mv (pc1 := 5) (st1 := [.int p1]) rfl rfl rfl ?_
        refine w_mv (pc1 := 7) (st1 := [.int 26, .int p1]) rfl rfl rfl ?_
        by_cases h6 : 26 ≤ p1.toInt
        ·
          replace hh := hh.1 h6
          refine w_ige_T (pc1 := 19) rfl rfl (show 26 ≤ p1.toInt from h6) ?_
          refine w_mv (pc1 := 20) (st1 := [.null]) rfl rfl rfl ?_
          refine w_nret (pc1 := 26) rfl rfl rfl rfl ?_
          refine w_mv (pc1 := 27) (lv1 := [(3, .null), (0, .ref 5), (1, .int p1), (2, .int p2)]) (st1 := []) rfl rfl rfl ?_
          refine w_mv (pc1 := 28) (st1 := [.null]) rfl rfl rfl ?_
          refine w_mv (pc1 := 31) (st1 := []) rfl rfl rfl ?_
          refine cw_thr rfl rfl (by omega) (Nat.le_of_ble_eq_true rfl) ?_
          exact c_acc (hP _ _ _ _ _ hh) (by omega) (by omega)
        ·
          replace hh := hh.2 (Int.not_le.mp h6)
          refine w_ige_F (pc1 := 10) rfl (by decide) rfl (show p1.toInt < 26 from (Int.not_le.mp h6)) ?_
          refine w_mv (pc1 := 11) (st1 := [.ref 9]) rfl rfl rfl ?_
          refine cw_gf (v := .ref 22) (pc1 := 14) rfl (by omega) (by omega) g4 rfl rfl ?_
          refine w_mv (pc1 := 15) (st1 := [.int p1, .ref 22]) rfl rfl rfl ?_
          obtain ⟨b7b, f7, g7, hh⟩ := hh
          obtain ⟨q8a, q8b, hh⟩ := hh
          refine cw_ald (pc1 := 16) rfl (by omega) g7 rfl q8a q8b rfl ?_
          obtain ⟨o9, e9⟩ : ∃ o, o = f7 p1.toNatClampNeg := ⟨_, rfl⟩
          replace hh := hh o9 e9
          rw [← e9]
          refine w_mv (pc1 := 20) (st1 := [va_rf o9]) rfl rfl rfl ?_
          cases o9 with
          | none =>
            replace hh := hh.1 rfl
            refine w_nret (pc1 := 26) rfl rfl rfl rfl ?_
            refine w_mv (pc1 := 27) (lv1 := [(3, .null), (0, .ref 5), (1, .int p1), (2, .int p2)]) (st1 := []) rfl rfl rfl ?_
            refine w_mv (pc1 := 28) (st1 := [.null]) rfl rfl rfl ?_
            refine w_mv (pc1 := 31) (st1 := []) rfl rfl rfl ?_
            refine cw_thr rfl rfl (by omega) (Nat.le_of_ble_eq_true rfl) ?_
            exact c_acc (hP _ _ _ _ _ hh) (by omega) (by omega)
          | some x10 =>
            replace hh := hh.2 x10 rfl
            refine w_aret (pc1 := 26) rfl rfl rfl rfl ?_
            refine w_mv (pc1 := 27) (lv1 := [(3, .ref x10), (0, .ref 5), (1, .int p1), (2, .int p2)]) (st1 := []) rfl rfl rfl ?_
            refine w_mv (pc1 := 28) (st1 := [.ref x10]) rfl rfl rfl ?_
            refine w_mv (pc1 := 39) (st1 := []) rfl rfl rfl ?_
            refine w_mv (pc1 := 40) (st1 := [.ref 5]) rfl rfl rfl ?_
            refine cw_gf (v := .ref 31) (pc1 := 43) rfl (by omega) (by omega) g3 rfl rfl ?_
            refine w_mv (pc1 := 44) (st1 := [.int 0, .ref 31]) rfl rfl rfl ?_
            obtain ⟨b11b, r11_0, i11_1, i11_2, i11_3, g11, hh⟩ := hh
            refine w_call (M' := sM_181) (vals := [.ref 31, .int 0]) (rest := []) (lv' := [(0, .ref 31), (1, .int 0)]) rfl rfl rfl rfl rfl rfl (cH_rcv (by omega) (by omega) g11) rfl rfl rfl ?_
            refine hh _ _ _ _ (fun r12 N12 G12 kc12 ks12 hh => ?_)
            obtain ⟨er12, hh⟩ := hh
            subst er12
            refine w_kv (pc1 := 47) rfl ?_
            refine w_mv (pc1 := 48) (st1 := [.ref 5]) rfl rfl rfl ?_
            refine w_mv (pc1 := 49) (st1 := [.ref x10, .ref 5]) rfl rfl rfl ?_
            refine w_mv (pc1 := 50) (st1 := [.int 1, .ref x10, .ref 5]) rfl rfl rfl ?_
            obtain ⟨b13b, i13_1, g13, hh⟩ := hh
            refine w_call (M' := sM_104) (vals := [.ref 5, .ref x10, .int 1]) (rest := []) (lv' := [(0, .ref 5), (1, .ref x10), (2, .int 1)]) rfl rfl rfl rfl rfl rfl (cH_rcv (by omega) (by omega) g13) rfl rfl rfl ?_
            refine hh _ _ _ _ (fun r14 N14 G14 kc14 ks14 hh => ?_)
            obtain ⟨er14, hh⟩ := hh
            subst er14
            refine w_kv (pc1 := 53) rfl ?_
            refine w_mv (pc1 := 54) (st1 := [.ref 5]) rfl rfl rfl ?_
            obtain ⟨b15b, i15_1, g15, hh⟩ := hh
            refine cw_gf (v := .ref 31) (pc1 := 57) rfl (by omega) (by omega) g15 rfl rfl ?_
            obtain ⟨b16b, r16_0, i16_1, i16_2, i16_3, g16, hh⟩ := hh
            refine w_call (M' := sM_194) (vals := [.ref 31]) (rest := []) (lv' := [(0, .ref 31)]) rfl rfl rfl rfl rfl rfl (cH_rcv (by omega) (by omega) g16) rfl rfl rfl ?_
            refine w_mv (pc1 := 1) (st1 := [.ref 31]) rfl rfl rfl ?_
            refine w_call (M' := sM_201) (vals := [.ref 31]) (rest := []) (lv' := [(0, .ref 31)]) rfl rfl rfl rfl rfl rfl (cH_rcvS (by omega) (by omega) g16 rfl) rfl rfl rfl ?_
            refine w_mv (pc1 := 1) (st1 := [.ref 31]) rfl rfl rfl ?_
            refine cw_gf (v := .int i16_3) (pc1 := 4) rfl (by omega) (by omega) g16 rfl rfl ?_
            refine w_iret (pc1 := 4) rfl rfl rfl rfl ?_
            refine w_iret (pc1 := 60) rfl rfl rfl rfl ?_
            refine w_mv (pc1 := 62) (st1 := [.int 80, .int i16_3]) rfl rfl rfl ?_
            refine w_call (M' := sM_174) (vals := [.int i16_3, .int 80]) (rest := []) (lv' := [(0, .int i16_3), (1, .int 80)]) rfl rfl rfl rfl rfl rfl rfl rfl rfl rfl ?_
            refine w_mv (pc1 := 1) (st1 := [.int i16_3]) rfl rfl rfl ?_
            refine w_mv (pc1 := 2) (st1 := [.int 80, .int i16_3]) rfl rfl rfl ?_
            by_cases h17 : 80 < i16_3.toInt
            ·
              replace hh := hh.1 h17
              refine w_igt_T (pc1 := 9) rfl rfl (show 80 < i16_3.toInt from h17) ?_
              refine w_mv (pc1 := 10) (st1 := [.int 80]) rfl rfl rfl ?_
              refine w_iret (pc1 := 65) rfl rfl rfl rfl ?_
              refine w_mv (pc1 := 67) (lv1 := [(4, .int 80), (3, .ref x10), (0, .ref 5), (1, .int p1), (2, .int p2)]) (st1 := []) rfl rfl rfl ?_
              refine w_mv (pc1 := 68) (st1 := [.int p2]) rfl rfl rfl ?_
              refine w_mv (pc1 := 69) (st1 := [.int (-1), .int p2]) rfl rfl rfl ?_
              by_cases h18 : p2.toInt = (-1)
              ·
                replace hh := hh.2 h18
                refine w_ine_F (pc1 := 72) rfl (by decide) rfl (show p2.toInt = (-1) from h18) ?_
                refine w_mv (pc1 := 74) (st1 := [.int 80]) rfl rfl rfl ?_
                refine sx_wp.stop rfl rfl rfl ?_
                exact c_acc (hP _ _ _ _ _ hh) (by omega) (by omega)
              ·
                replace hh := hh.1 h18
                refine w_ine_T (pc1 := 75) rfl rfl (show p2.toInt ≠ (-1) from h18) ?_
                refine w_mv (pc1 := 76) (st1 := [.int p2]) rfl rfl rfl ?_
                by_cases h19 : p2.toInt < 0
                ·
                  replace hh := hh.1 h19
                  refine w_zlt_T (pc1 := 85) rfl rfl (show p2.toInt < 0 from h19) ?_
                  refine cw_thr rfl rfl (by omega) (Nat.le_of_ble_eq_true rfl) ?_
                  exact c_acc (hP _ _ _ _ _ hh) (by omega) (by omega)
                ·
                  replace hh := hh.2 (Int.not_lt.mp h19)
                  refine w_zlt_F (pc1 := 79) rfl (by decide) rfl (show 0 ≤ p2.toInt from (Int.not_lt.mp h19)) ?_
                  refine w_mv (pc1 := 80) (st1 := [.int p2]) rfl rfl rfl ?_
                  refine w_mv (pc1 := 82) (st1 := [.int 80, .int p2]) rfl rfl rfl ?_
                  by_cases h20 : p2.toInt < 80
                  ·
                    replace hh := hh.1 h20
                    refine w_ilt_T (pc1 := 93) rfl rfl (show p2.toInt < 80 from h20) ?_
                    refine w_mv (pc1 := 94) (st1 := [.ref 5]) rfl rfl rfl ?_
                    refine cw_gf (v := .ref 31) (pc1 := 97) rfl (by omega) (by omega) g15 rfl rfl ?_
                    refine w_mv (pc1 := 98) (st1 := [.int p2, .ref 31]) rfl rfl rfl ?_
                    refine w_call (M' := sM_198) (vals := [.ref 31, .int p2]) (rest := []) (lv' := [(0, .ref 31), (1, .int p2)]) rfl rfl rfl rfl rfl rfl (cH_rcv (by omega) (by omega) g16) rfl rfl rfl ?_
                    refine hh _ _ _ _ (fun r21 N21 G21 kc21 ks21 hh => ?_)
                    obtain ⟨v21, er21, hh⟩ := hh
                    subst er21
                    refine w_ki (pc1 := 101) rfl ?_
                    refine sx_wp.stop rfl rfl rfl ?_
                    exact c_acc (hP _ _ _ _ _ hh) (by omega) (by omega)
                  ·
                    replace hh := hh.2 (Int.not_lt.mp h20)
                    refine w_ilt_F (pc1 := 85) rfl (by decide) rfl (show 80 ≤ p2.toInt from (Int.not_lt.mp h20)) ?_
                    refine cw_thr rfl rfl (by omega) (Nat.le_of_ble_eq_true rfl) ?_
                    exact c_acc (hP _ _ _ _ _ hh) (by omega) (by omega)
            ·
              replace hh := hh.2 (Int.not_lt.mp h17)
              refine w_igt_F (pc1 := 5) rfl (by decide) rfl (show i16_3.toInt ≤ 80 from (Int.not_lt.mp h17)) ?_
              refine w_mv (pc1 := 6) (st1 := [.int i16_3]) rfl rfl rfl ?_
              refine w_mv (pc1 := 10) (st1 := [.int i16_3]) rfl rfl rfl ?_
              refine w_iret (pc1 := 65) rfl rfl rfl rfl ?_
              refine w_mv (pc1 := 67) (lv1 := [(4, .int i16_3), (3, .ref x10), (0, .ref 5), (1, .int p1), (2, .int p2)]) (st1 := []) rfl rfl rfl ?_
              refine w_mv (pc1 := 68) (st1 := [.int p2]) rfl rfl rfl ?_
              refine w_mv (pc1 := 69) (st1 := [.int (-1), .int p2]) rfl rfl rfl ?_
              by_cases h22 : p2.toInt = (-1)
              ·
                replace hh := hh.2 h22
                refine w_ine_F (pc1 := 72) rfl (by decide) rfl (show p2.toInt = (-1) from h22) ?_
                refine w_mv (pc1 := 74) (st1 := [.int i16_3]) rfl rfl rfl ?_
                refine sx_wp.stop rfl rfl rfl ?_
                exact c_acc (hP _ _ _ _ _ hh) (by omega) (by omega)
              ·
                replace hh := hh.1 h22
                refine w_ine_T (pc1 := 75) rfl rfl (show p2.toInt ≠ (-1) from h22) ?_
                refine w_mv (pc1 := 76) (st1 := [.int p2]) rfl rfl rfl ?_
                by_cases h23 : p2.toInt < 0
                ·
                  replace hh := hh.1 h23
                  refine w_zlt_T (pc1 := 85) rfl rfl (show p2.toInt < 0 from h23) ?_
                  refine cw_thr rfl rfl (by omega) (Nat.le_of_ble_eq_true rfl) ?_
                  exact c_acc (hP _ _ _ _ _ hh) (by omega) (by omega)
                ·
                  replace hh := hh.2 (Int.not_lt.mp h23)
                  refine w_zlt_F (pc1 := 79) rfl (by decide) rfl (show 0 ≤ p2.toInt from (Int.not_lt.mp h23)) ?_
                  refine w_mv (pc1 := 80) (st1 := [.int p2]) rfl rfl rfl ?_
                  refine w_mv (pc1 := 82) (st1 := [.int i16_3, .int p2]) rfl rfl rfl ?_
                  by_cases h24 : p2.toInt < i16_3.toInt
                  ·
                    replace hh := hh.1 h24
                    refine w_ilt_T (pc1 := 93) rfl rfl (show p2.toInt < i16_3.toInt from h24) ?_
                    refine w_mv (pc1 := 94) (st1 := [.ref 5]) rfl rfl rfl ?_
                    refine cw_gf (v := .ref 31) (pc1 := 97) rfl (by omega) (by omega) g15 rfl rfl ?_
                    refine w_mv (pc1 := 98) (st1 := [.int p2, .ref 31]) rfl rfl rfl ?_
                    refine w_call (M' := sM_198) (vals := [.ref 31, .int p2]) (rest := []) (lv' := [(0, .ref 31), (1, .int p2)]) rfl rfl rfl rfl rfl rfl (cH_rcv (by omega) (by omega) g16) rfl rfl rfl ?_
                    refine hh _ _ _ _ (fun r25 N25 G25 kc25 ks25 hh => ?_)
                    obtain ⟨v25, er25, hh⟩ := hh
                    subst er25
                    refine w_ki (pc1 := 101) rfl ?_
                    refine sx_wp.stop rfl rfl rfl ?_
                    exact c_acc (hP _ _ _ _ _ hh) (by omega) (by omega)
                  ·
                    replace hh := hh.2 (Int.not_lt.mp h24)
                    refine w_ilt_F (pc1 := 85) rfl (by decide) rfl (show i16_3.toInt ≤ p2.toInt from (Int.not_lt.mp h24)) ?_
                    refine cw_thr rfl rfl (by omega) (Nat.le_of_ble_eq_true rfl) ?_
                    exact c_acc (hP _ _ _ _ _ hh) (by omega) (by omega)
    ·
      replace hh := hh.2 (Int.not_lt.mp h2)
      refine w_ilt_F (pc1 := 10) rfl (by decide) rfl (show 26 ≤ p1.toInt from (Int.not_lt.mp h2)) ?_
      refine cw_thr rfl rfl (by omega) (Nat.le_of_ble_eq_true rfl) ?_
      exact c_acc (hP _ _ _ _ _ hh) (by omega) (by omega)
set_option maxRecDepth 20000 in
set_option maxHeartbeats 4000000 in
theorem k_104_0 {h : Nat} {y1 : Nat} {p2 : Int32} {N : Nat} {G : Nat → sx_C} {K : Option Value ⊕ Nat → Nat → (Nat → sx_C) → Nat → Nat → Prop} (hh : 5 < N ∧ ∃ (i1_1 : Int32), G 5 = .inr (.inl (0, [.ref 6, .int i1_1, .ref 8, .ref 9, .ref 31])) ∧ 31 < N ∧ ∃ (r2_0 : Nat) (i2_1 : Int32) (i2_2 : Int32) (i2_3 : Int32), G 31 = .inr (.inl (14, [.ref r2_0, .int i2_1, .int i2_2, .int i2_3])) ∧ ((80 ≤ i2_3.toInt → K (.inl none) (N) G (0) (0)) ∧ (i2_3.toInt < 80 → ((p2.toInt ≤ 41 → 5 ≤ y1 ∧ y1 < N ∧ ∃ (i5_1 : Int32) (i5_2 : Int32) (i5_3 : Int32) (o5_4 : Option Nat), G y1 = .inr (.inl (10, [.ref (y1 + 1), .int i5_1, .int i5_2, .int i5_3, va_rf o5_4])) ∧ cT (1) sM_74 0 [(0, .ref y1)] [] (N) G (fun r6 N6 G6 kc6 ks6 => N = N6 ∧ G = G6 ∧ 0 = kc6 ∧ 0 = ks6 ∧ ∃ o6 : Option Nat, r6 = .inl (some (va_rf o6)) ∧ ((o6 = none → False) ∧ (∀ x7, o6 = some x7 → 5 ≤ x7 ∧ x7 < N ∧ ∃ (i8_1 : Int32) (i8_2 : Int32) (i8_3 : Int32) (o8_4 : Option Nat), G x7 = .inr (.inl (10, [.ref (x7 + 1), .int i8_1, .int i8_2, .int i8_3, va_rf o8_4])) ∧ ((i8_1.toInt ≠ 0 → ((i8_1.toInt ≠ 1 → cT (6) sM_195 0 [(0, .ref 31), (1, .int (UInt32.toInt32 (Int32.toUInt32 i8_2 % 65536)))] [] (N) G (fun r13 N13 G13 kc13 ks13 => ∃ o13 : Option Nat, r13 = .inl (some (va_rf o13)) ∧ cT (h + 7) sM_104 83 [(0, .ref 5), (1, .ref y1), (2, .int p2), (3, .ref x7), (4, .int 0)] [] (N13) G13 (fun r N1 G1 kc1 ks1 => K r N1 G1 (kc13 + kc1) (ks13 + ks1)))) ∧ (i8_1.toInt = 1 → cT (6) sM_190 0 [(0, .ref 31), (1, .int i8_2)] [] (N) G (fun r12 N12 G12 kc12 ks12 => ∃ o12 : Option Nat, r12 = .inl (some (va_rf o12)) ∧ K (.inl none) (N12) G12 (kc12) (ks12))))) ∧ (i8_1.toInt = 0 → cT (6) sM_195 0 [(0, .ref 31), (1, .int 95)] [] (N) G (fun r10 N10 G10 kc10 ks10 => ∃ o10 : Option Nat, r10 = .inl (some (va_rf o10)) ∧ K (.inl none) (N10) G10 (kc10) (ks10)))))))) ∧ (41 < p2.toInt → K (.inl none) (N) G (0) (0)))))) : cT (h + 7) sM_104 0 [(0, .ref 5), (1, .ref y1), (2, .int p2)] [] N G K := by
  intro d dc ds P hP
  show s_wp (d + h + 7) _ _ _ _ _ _ _ _
  refine w_mv (pc1 := 1) (st1 := [.ref 5]) rfl rfl rfl ?_
  obtain ⟨b1b, i1_1, g1, hh⟩ := hh
  refine cw_gf (v := .ref 31) (pc1 := 4) rfl (by omega) (by omega) g1 rfl rfl ?_
  obtain ⟨b2b, r2_0, i2_1, i2_2, i2_3, g2, hh⟩ := hh
  refine w_call (M' := sM_194) (vals := [.ref 31]) (rest := []) (lv' := [(0, .ref 31)]) rfl rfl rfl rfl rfl rfl (cH_rcv (by omega) (by omega) g2) rfl rfl rfl ?_
  refine w_mv (pc1 := 1) (st1 := [.ref 31]) rfl rfl rfl ?_
  refine w_call (M' := sM_201) (vals := [.ref 31]) (rest := []) (lv' := [(0, .ref 31)]) rfl rfl rfl rfl rfl rfl (cH_rcvS (by omega) (by omega) g2 rfl) rfl rfl rfl ?_
  refine w_mv (pc1 := 1) (st1 := [.ref 31]) rfl rfl rfl ?_
  refine cw_gf (v := .int i2_3) (pc1 := 4) rfl (by omega) (by omega) g2 rfl rfl ?_
  refine w_iret (pc1 := 4) rfl rfl rfl rfl ?_
  refine w_iret (pc1 := 7) rfl rfl rfl rfl ?_
  refine w_mv (pc1 := 9) (st1 := [.int 80, .int i2_3]) rfl rfl rfl ?_
  by_cases h3 : 80 ≤ i2_3.toInt
  ·
    replace hh := hh.1 h3
    refine w_ige_T (pc1 := 18) rfl rfl (show 80 ≤ i2_3.toInt from h3) ?_
    refine sx_wp.stop rfl rfl rfl ?_
    exact c_acc (hP _ _ _ _ _ hh) (by omega) (by omega)
  ·
    replace hh := hh.2 (Int.not_le.mp h3)
    refine w_ige_F (pc1 := 12) rfl (by decide) rfl (show i2_3.toInt < 80 from (Int.not_le.mp h3)) ?_
    refine w_mv (pc1 := 13) (st1 := [.int p2]) rfl rfl rfl ?_
    refine w_mv (pc1 := 15) (st1 := [.int 41, .int p2]) rfl rfl rfl ?_
    by_cases h4 : p2.toInt ≤ 41
    ·
      replace hh := hh.1 h4
      refine w_ile_T (pc1 := 19) rfl rfl (show p2.toInt ≤ 41 from h4) ?_
      refine w_mv (pc1 := 20) (st1 := [.ref y1]) rfl rfl rfl ?_
      obtain ⟨b5a, b5b, i5_1, i5_2, i5_3, o5_4, g5, hh⟩ := hh
      refine w_call (M' := sM_74) (vals := [.ref y1]) (rest := []) (lv' := [(0, .ref y1)]) rfl rfl rfl rfl rfl rfl (cH_rcv (by omega) (by omega) g5) rfl rfl rfl ?_
      refine hh _ _ _ _ (fun r6 N6 G6 kc6 ks6 hh => ?_)
      obtain ⟨eN6, eG6, ek6, es6, hh⟩ := hh
      subst eN6
      subst eG6
      subst ek6
      subst es6
      obtain ⟨o6, er6, hh⟩ := hh
      subst er6
      refine w_kr (pc1 := 23) rfl ?_
      refine w_mv (pc1 := 24) (lv1 := [(3, va_rf o6), (0, .ref 5), (1, .ref y1), (2, .int p2)]) (st1 := []) rfl rfl (by cases o6 <;> rfl) ?_
      refine w_mv (pc1 := 25) (lv1 := [(3, va_rf o6), (0, .ref 5), (1, .ref y1), (2, .int p2)]) (st1 := [va_rf o6]) rfl rfl (by cases o6 <;> rfl) ?_
      cases o6 with
      | none =>
        replace hh := hh.1 rfl
        exact hh.elim
      | some x7 =>
        replace hh := hh.2 x7 rfl
        obtain ⟨b8a, b8b, i8_1, i8_2, i8_3, o8_4, g8, hh⟩ := hh
        refine cw_gf (v := .int i8_1) (pc1 := 28) rfl (by omega) (by omega) g8 rfl rfl ?_
        by_cases h9 : i8_1.toInt = 0
        ·
          replace hh := hh.2 h9
          refine w_zne_F (pc1 := 31) rfl (by decide) rfl (show i8_1.toInt = 0 from h9) ?_
          refine w_mv (pc1 := 32) (st1 := [.ref 5]) rfl rfl rfl ?_
          refine cw_gf (v := .ref 31) (pc1 := 35) rfl (by omega) (by omega) g1 rfl rfl ?_
          refine w_mv (pc1 := 37) (st1 := [.int 95, .ref 31]) rfl rfl rfl ?_
          refine w_call (M' := sM_195) (vals := [.ref 31, .int 95]) (rest := []) (lv' := [(0, .ref 31), (1, .int 95)]) rfl rfl rfl rfl rfl rfl (cH_rcv (by omega) (by omega) g2) rfl rfl rfl ?_
          refine hh _ _ _ _ (fun r10 N10 G10 kc10 ks10 hh => ?_)
          obtain ⟨o10, er10, hh⟩ := hh
          subst er10
          refine w_kr (pc1 := 40) rfl ?_
          refine w_mv (pc1 := 41) (lv1 := [(3, .ref x7), (0, .ref 5), (1, .ref y1), (2, .int p2)]) (st1 := []) rfl rfl (by cases o10 <;> rfl) ?_
          refine w_mv (pc1 := 149) (st1 := []) rfl rfl rfl ?_
          refine sx_wp.stop rfl rfl rfl ?_
          exact c_acc (hP _ _ _ _ _ hh) (by omega) (by omega)
        ·
          replace hh := hh.1 h9
          refine w_zne_T (pc1 := 44) rfl rfl (show i8_1.toInt ≠ 0 from h9) ?_
          refine w_mv (pc1 := 45) (st1 := [.ref x7]) rfl rfl rfl ?_
          refine cw_gf (v := .int i8_1) (pc1 := 48) rfl (by omega) (by omega) g8 rfl rfl ?_
          refine w_mv (pc1 := 49) (st1 := [.int 1, .int i8_1]) rfl rfl rfl ?_
          by_cases h11 : i8_1.toInt = 1
          ·
            replace hh := hh.2 h11
            refine w_ine_F (pc1 := 52) rfl (by decide) rfl (show i8_1.toInt = 1 from h11) ?_
            refine w_mv (pc1 := 53) (st1 := [.ref 5]) rfl rfl rfl ?_
            refine cw_gf (v := .ref 31) (pc1 := 56) rfl (by omega) (by omega) g1 rfl rfl ?_
            refine w_mv (pc1 := 57) (st1 := [.ref x7, .ref 31]) rfl rfl rfl ?_
            refine cw_gf (v := .int i8_2) (pc1 := 60) rfl (by omega) (by omega) g8 rfl rfl ?_
            refine w_call (M' := sM_190) (vals := [.ref 31, .int i8_2]) (rest := []) (lv' := [(0, .ref 31), (1, .int i8_2)]) rfl rfl rfl rfl rfl rfl (cH_rcv (by omega) (by omega) g2) rfl rfl rfl ?_
            refine hh _ _ _ _ (fun r12 N12 G12 kc12 ks12 hh => ?_)
            obtain ⟨o12, er12, hh⟩ := hh
            subst er12
            refine w_kr (pc1 := 63) rfl ?_
            refine w_mv (pc1 := 64) (lv1 := [(3, .ref x7), (0, .ref 5), (1, .ref y1), (2, .int p2)]) (st1 := []) rfl rfl (by cases o12 <;> rfl) ?_
            refine w_mv (pc1 := 149) (st1 := []) rfl rfl rfl ?_
            refine sx_wp.stop rfl rfl rfl ?_
            exact c_acc (hP _ _ _ _ _ hh) (by omega) (by omega)
          ·
            replace hh := hh.1 h11
            refine w_ine_T (pc1 := 67) rfl rfl (show i8_1.toInt ≠ 1 from h11) ?_
            refine w_mv (pc1 := 68) (st1 := [.ref 5]) rfl rfl rfl ?_
            refine cw_gf (v := .ref 31) (pc1 := 71) rfl (by omega) (by omega) g1 rfl rfl ?_
            refine w_mv (pc1 := 72) (st1 := [.ref x7, .ref 31]) rfl rfl rfl ?_
            refine cw_gf (v := .int i8_2) (pc1 := 75) rfl (by omega) (by omega) g8 rfl rfl ?_
            refine w_mv (pc1 := 76) (st1 := [.int (UInt32.toInt32 (Int32.toUInt32 i8_2 % 65536)), .ref 31]) rfl rfl rfl ?_
            refine w_call (M' := sM_195) (vals := [.ref 31, .int (UInt32.toInt32 (Int32.toUInt32 i8_2 % 65536))]) (rest := []) (lv' := [(0, .ref 31), (1, .int (UInt32.toInt32 (Int32.toUInt32 i8_2 % 65536)))]) rfl rfl rfl rfl rfl rfl (cH_rcv (by omega) (by omega) g2) rfl rfl rfl ?_
            refine hh _ _ _ _ (fun r13 N13 G13 kc13 ks13 hh => ?_)
            obtain ⟨o13, er13, hh⟩ := hh
            subst er13
            refine w_kr (pc1 := 79) rfl ?_
            refine w_mv (pc1 := 80) (lv1 := [(3, .ref x7), (0, .ref 5), (1, .ref y1), (2, .int p2)]) (st1 := []) rfl rfl (by cases o13 <;> rfl) ?_
            refine w_mv (pc1 := 81) (st1 := [.int 0]) rfl rfl rfl ?_
            refine w_mv (pc1 := 83) (lv1 := [(4, .int 0), (3, .ref x7), (0, .ref 5), (1, .ref y1), (2, .int p2)]) (st1 := []) rfl rfl rfl ?_
            refine w_wk (l1 := [(0, .ref 5), (1, .ref y1), (2, .int p2), (3, .ref x7), (4, .int 0)]) rfl ⟨rfl, rfl, rfl, rfl, rfl, trivial⟩ ?_
            refine hh d _ _ P (fun r N1 G1 kc1 ks1 q => ?_)
            exact c_acc (hP r N1 G1 _ _ q) (by omega) (by omega)
    ·
      replace hh := hh.2 (Int.not_le.mp h4)
      refine w_ile_F (pc1 := 18) rfl (by decide) rfl (show 41 < p2.toInt from (Int.not_le.mp h4)) ?_
      refine sx_wp.stop rfl rfl rfl ?_
      exact c_acc (hP _ _ _ _ _ hh) (by omega) (by omega)
set_option maxRecDepth 20000 in
set_option maxHeartbeats 4000000 in
theorem k_104_83 {h : Nat} {y1 : Nat} {p2 : Int32} {y3 : Nat} {p4 : Int32} {N : Nat} {G : Nat → sx_C} {K : Option Value ⊕ Nat → Nat → (Nat → sx_C) → Nat → Nat → Prop} (hh : 5 ≤ y3 ∧ y3 < N ∧ ∃ (i1_1 : Int32) (i1_2 : Int32) (i1_3 : Int32) (o1_4 : Option Nat), G y3 = .inr (.inl (10, [.ref (y3 + 1), .int i1_1, .int i1_2, .int i1_3, va_rf o1_4])) ∧ ((i1_3.toInt ≤ p4.toInt → ((i1_3.toInt ≤ 0 → K (.inl none) (N) G (0) (0)) ∧ (0 < i1_3.toInt → 5 < N ∧ ∃ (i4_1 : Int32), G 5 = .inr (.inl (0, [.ref 6, .int i4_1, .ref 8, .ref 9, .ref 31])) ∧ 31 < N ∧ ∃ (r5_0 : Nat) (i5_1 : Int32) (i5_2 : Int32) (i5_3 : Int32), G 31 = .inr (.inl (14, [.ref r5_0, .int i5_1, .int i5_2, .int i5_3])) ∧ cT (6) sM_195 0 [(0, .ref 31), (1, .int 41)] [] (N) G (fun r6 N6 G6 kc6 ks6 => ∃ o6 : Option Nat, r6 = .inl (some (va_rf o6)) ∧ K (.inl none) (N6) G6 (kc6) (ks6))))) ∧ (p4.toInt < i1_3.toInt → 5 < N ∧ ∃ (i7_1 : Int32), G 5 = .inr (.inl (0, [.ref 6, .int i7_1, .ref 8, .ref 9, .ref 31])) ∧ ((p4.toInt ≠ 0 → 31 < N ∧ ∃ (r17_0 : Nat) (i17_1 : Int32) (i17_2 : Int32) (i17_3 : Int32), G 31 = .inr (.inl (14, [.ref r17_0, .int i17_1, .int i17_2, .int i17_3])) ∧ cT (6) sM_195 0 [(0, .ref 31), (1, .int 44)] [] (N) G (fun r18 N18 G18 kc18 ks18 => ∃ o18 : Option Nat, r18 = .inl (some (va_rf o18)) ∧ 5 ≤ y3 ∧ y3 < N18 ∧ ∃ (i19_1 : Int32) (i19_2 : Int32) (i19_3 : Int32) (o19_4 : Option Nat), G18 y3 = .inr (.inl (10, [.ref (y3 + 1), .int i19_1, .int i19_2, .int i19_3, va_rf o19_4])) ∧ 5 ≤ y3 + 1 ∧ y3 + 1 < N18 ∧ ∃ (f20 : Nat → Option Nat), G18 (y3 + 1) = .inl (6, (3, .inr (.inr (.inr (.inr f20))))) ∧ 0 ≤ p4.toInt ∧ p4.toInt < (3 : Nat) ∧ ∃ x22, f20 p4.toNatClampNeg = some x22 ∧ 5 < N18 ∧ ∃ (i23_1 : Int32), G18 5 = .inr (.inl (0, [.ref 6, .int i23_1, .ref 8, .ref 9, .ref 31])) ∧ cT (h) sM_104 0 [(0, .ref 5), (1, .ref x22), (2, .int (p2 + 1))] [] (N18) G18 (fun r24 N24 G24 kc24 ks24 => r24 = .inl none ∧ cT (h + 7) sM_104 83 [(0, .ref 5), (1, .ref y1), (2, .int p2), (3, .ref y3), (4, .int (p4 + 1))] [] (N24) G24 (fun r N1 G1 kc1 ks1 => K r N1 G1 (kc18 + kc24 + kc1) (ks18 + ks24 + ks1))))) ∧ (p4.toInt = 0 → 31 < N ∧ ∃ (r9_0 : Nat) (i9_1 : Int32) (i9_2 : Int32) (i9_3 : Int32), G 31 = .inr (.inl (14, [.ref r9_0, .int i9_1, .int i9_2, .int i9_3])) ∧ cT (6) sM_195 0 [(0, .ref 31), (1, .int 40)] [] (N) G (fun r10 N10 G10 kc10 ks10 => ∃ o10 : Option Nat, r10 = .inl (some (va_rf o10)) ∧ 5 ≤ y3 ∧ y3 < N10 ∧ ∃ (i11_1 : Int32) (i11_2 : Int32) (i11_3 : Int32) (o11_4 : Option Nat), G10 y3 = .inr (.inl (10, [.ref (y3 + 1), .int i11_1, .int i11_2, .int i11_3, va_rf o11_4])) ∧ 5 ≤ y3 + 1 ∧ y3 + 1 < N10 ∧ ∃ (f12 : Nat → Option Nat), G10 (y3 + 1) = .inl (6, (3, .inr (.inr (.inr (.inr f12))))) ∧ 0 ≤ p4.toInt ∧ p4.toInt < (3 : Nat) ∧ ∃ x14, f12 p4.toNatClampNeg = some x14 ∧ 5 < N10 ∧ ∃ (i15_1 : Int32), G10 5 = .inr (.inl (0, [.ref 6, .int i15_1, .ref 8, .ref 9, .ref 31])) ∧ cT (h) sM_104 0 [(0, .ref 5), (1, .ref x14), (2, .int (p2 + 1))] [] (N10) G10 (fun r16 N16 G16 kc16 ks16 => r16 = .inl none ∧ cT (h + 7) sM_104 83 [(0, .ref 5), (1, .ref y1), (2, .int p2), (3, .ref y3), (4, .int (p4 + 1))] [] (N16) G16 (fun r N1 G1 kc1 ks1 => K r N1 G1 (kc10 + kc16 + kc1) (ks10 + ks16 + ks1))))))))) : cT (h + 7) sM_104 83 [(0, .ref 5), (1, .ref y1), (2, .int p2), (3, .ref y3), (4, .int p4)] [] N G K := by
  intro d dc ds P hP
  show s_wp (d + h + 7) _ _ _ _ _ _ _ _
  refine w_mv (pc1 := 85) (st1 := [.int p4]) rfl rfl rfl ?_
  refine w_mv (pc1 := 86) (st1 := [.ref y3, .int p4]) rfl rfl rfl ?_
  obtain ⟨b1a, b1b, i1_1, i1_2, i1_3, o1_4, g1, hh⟩ := hh
  refine cw_gf (v := .int i1_3) (pc1 := 89) rfl (by omega) (by omega) g1 rfl rfl ?_
  by_cases h2 : i1_3.toInt ≤ p4.toInt
  ·
    replace hh := hh.1 h2
    refine w_ige_T (pc1 := 132) rfl rfl (show i1_3.toInt ≤ p4.toInt from h2) ?_
    refine w_mv (pc1 := 133) (st1 := [.ref y3]) rfl rfl rfl ?_
    refine cw_gf (v := .int i1_3) (pc1 := 136) rfl (by omega) (by omega) g1 rfl rfl ?_
    by_cases h3 : i1_3.toInt ≤ 0
    ·
      replace hh := hh.1 h3
      refine w_zle_T (pc1 := 149) rfl rfl (show i1_3.toInt ≤ 0 from h3) ?_
      refine sx_wp.stop rfl rfl rfl ?_
      exact c_acc (hP _ _ _ _ _ hh) (by omega) (by omega)
    ·
      replace hh := hh.2 (Int.not_le.mp h3)
      refine w_zle_F (pc1 := 139) rfl (by decide) rfl (show 0 < i1_3.toInt from (Int.not_le.mp h3)) ?_
      refine w_mv (pc1 := 140) (st1 := [.ref 5]) rfl rfl rfl ?_
      obtain ⟨b4b, i4_1, g4, hh⟩ := hh
      refine cw_gf (v := .ref 31) (pc1 := 143) rfl (by omega) (by omega) g4 rfl rfl ?_
      refine w_mv (pc1 := 145) (st1 := [.int 41, .ref 31]) rfl rfl rfl ?_
      obtain ⟨b5b, r5_0, i5_1, i5_2, i5_3, g5, hh⟩ := hh
      refine w_call (M' := sM_195) (vals := [.ref 31, .int 41]) (rest := []) (lv' := [(0, .ref 31), (1, .int 41)]) rfl rfl rfl rfl rfl rfl (cH_rcv (by omega) (by omega) g5) rfl rfl rfl ?_
      refine hh _ _ _ _ (fun r6 N6 G6 kc6 ks6 hh => ?_)
      obtain ⟨o6, er6, hh⟩ := hh
      subst er6
      refine w_kr (pc1 := 148) rfl ?_
      refine w_mv (pc1 := 149) (lv1 := [(0, .ref 5), (1, .ref y1), (2, .int p2), (3, .ref y3), (4, .int p4)]) (st1 := []) rfl rfl (by cases o6 <;> rfl) ?_
      refine sx_wp.stop rfl rfl rfl ?_
      exact c_acc (hP _ _ _ _ _ hh) (by omega) (by omega)
  ·
    replace hh := hh.2 (Int.not_le.mp h2)
    refine w_ige_F (pc1 := 92) rfl (by decide) rfl (show p4.toInt < i1_3.toInt from (Int.not_le.mp h2)) ?_
    refine w_mv (pc1 := 93) (st1 := [.ref 5]) rfl rfl rfl ?_
    obtain ⟨b7b, i7_1, g7, hh⟩ := hh
    refine cw_gf (v := .ref 31) (pc1 := 96) rfl (by omega) (by omega) g7 rfl rfl ?_
    refine w_mv (pc1 := 98) (st1 := [.int p4, .ref 31]) rfl rfl rfl ?_
    by_cases h8 : p4.toInt = 0
    ·
      replace hh := hh.2 h8
      refine w_zne_F (pc1 := 101) rfl (by decide) rfl (show p4.toInt = 0 from h8) ?_
      refine w_mv (pc1 := 103) (st1 := [.int 40, .ref 31]) rfl rfl rfl ?_
      refine w_mv (pc1 := 108) (st1 := [.int 40, .ref 31]) rfl rfl rfl ?_
      obtain ⟨b9b, r9_0, i9_1, i9_2, i9_3, g9, hh⟩ := hh
      refine w_call (M' := sM_195) (vals := [.ref 31, .int 40]) (rest := []) (lv' := [(0, .ref 31), (1, .int 40)]) rfl rfl rfl rfl rfl rfl (cH_rcv (by omega) (by omega) g9) rfl rfl rfl ?_
      refine hh _ _ _ _ (fun r10 N10 G10 kc10 ks10 hh => ?_)
      obtain ⟨o10, er10, hh⟩ := hh
      subst er10
      refine w_kr (pc1 := 111) rfl ?_
      refine w_mv (pc1 := 112) (lv1 := [(0, .ref 5), (1, .ref y1), (2, .int p2), (3, .ref y3), (4, .int p4)]) (st1 := []) rfl rfl (by cases o10 <;> rfl) ?_
      refine w_mv (pc1 := 113) (st1 := [.ref 5]) rfl rfl rfl ?_
      refine w_mv (pc1 := 114) (st1 := [.ref y3, .ref 5]) rfl rfl rfl ?_
      obtain ⟨b11a, b11b, i11_1, i11_2, i11_3, o11_4, g11, hh⟩ := hh
      refine cw_gf (v := .ref (y3 + 1)) (pc1 := 117) rfl (by omega) (by omega) g11 rfl rfl ?_
      refine w_mv (pc1 := 119) (st1 := [.int p4, .ref (y3 + 1), .ref 5]) rfl rfl rfl ?_
      obtain ⟨b12a, b12b, f12, g12, hh⟩ := hh
      obtain ⟨q13a, q13b, hh⟩ := hh
      refine cw_ald (pc1 := 120) rfl (by omega) g12 rfl q13a q13b rfl ?_
      obtain ⟨x14, e14, hh⟩ := hh
      rw [e14]
      refine w_mv (pc1 := 121) (st1 := [.int p2, .ref x14, .ref 5]) rfl rfl rfl ?_
      refine w_mv (pc1 := 122) (st1 := [.int 1, .int p2, .ref x14, .ref 5]) rfl rfl rfl ?_
      refine w_mv (pc1 := 123) (st1 := [.int (p2 + 1), .ref x14, .ref 5]) rfl rfl rfl ?_
      obtain ⟨b15b, i15_1, g15, hh⟩ := hh
      refine w_call (M' := sM_104) (vals := [.ref 5, .ref x14, .int (p2 + 1)]) (rest := []) (lv' := [(0, .ref 5), (1, .ref x14), (2, .int (p2 + 1))]) rfl rfl rfl rfl rfl rfl (cH_rcv (by omega) (by omega) g15) rfl rfl rfl ?_
      refine c_dep (d1 := d + 6 + h) (by omega) (hh _ _ _ _ (fun r16 N16 G16 kc16 ks16 hh => ?_))
      obtain ⟨er16, hh⟩ := hh
      subst er16
      refine w_kv (pc1 := 126) rfl ?_
      refine w_mv (pc1 := 129) (lv1 := [(4, .int (p4 + 1)), (0, .ref 5), (1, .ref y1), (2, .int p2), (3, .ref y3)]) (st1 := []) rfl rfl rfl ?_
      refine w_mv (pc1 := 83) (st1 := []) rfl rfl rfl ?_
      refine w_wk (l1 := [(0, .ref 5), (1, .ref y1), (2, .int p2), (3, .ref y3), (4, .int (p4 + 1))]) rfl ⟨rfl, rfl, rfl, rfl, rfl, trivial⟩ ?_
      refine hh d _ _ P (fun r N1 G1 kc1 ks1 q => ?_)
      exact c_acc (hP r N1 G1 _ _ q) (by omega) (by omega)
    ·
      replace hh := hh.1 h8
      refine w_zne_T (pc1 := 106) rfl rfl (show p4.toInt ≠ 0 from h8) ?_
      refine w_mv (pc1 := 108) (st1 := [.int 44, .ref 31]) rfl rfl rfl ?_
      obtain ⟨b17b, r17_0, i17_1, i17_2, i17_3, g17, hh⟩ := hh
      refine w_call (M' := sM_195) (vals := [.ref 31, .int 44]) (rest := []) (lv' := [(0, .ref 31), (1, .int 44)]) rfl rfl rfl rfl rfl rfl (cH_rcv (by omega) (by omega) g17) rfl rfl rfl ?_
      refine hh _ _ _ _ (fun r18 N18 G18 kc18 ks18 hh => ?_)
      obtain ⟨o18, er18, hh⟩ := hh
      subst er18
      refine w_kr (pc1 := 111) rfl ?_
      refine w_mv (pc1 := 112) (lv1 := [(0, .ref 5), (1, .ref y1), (2, .int p2), (3, .ref y3), (4, .int p4)]) (st1 := []) rfl rfl (by cases o18 <;> rfl) ?_
      refine w_mv (pc1 := 113) (st1 := [.ref 5]) rfl rfl rfl ?_
      refine w_mv (pc1 := 114) (st1 := [.ref y3, .ref 5]) rfl rfl rfl ?_
      obtain ⟨b19a, b19b, i19_1, i19_2, i19_3, o19_4, g19, hh⟩ := hh
      refine cw_gf (v := .ref (y3 + 1)) (pc1 := 117) rfl (by omega) (by omega) g19 rfl rfl ?_
      refine w_mv (pc1 := 119) (st1 := [.int p4, .ref (y3 + 1), .ref 5]) rfl rfl rfl ?_
      obtain ⟨b20a, b20b, f20, g20, hh⟩ := hh
      obtain ⟨q21a, q21b, hh⟩ := hh
      refine cw_ald (pc1 := 120) rfl (by omega) g20 rfl q21a q21b rfl ?_
      obtain ⟨x22, e22, hh⟩ := hh
      rw [e22]
      refine w_mv (pc1 := 121) (st1 := [.int p2, .ref x22, .ref 5]) rfl rfl rfl ?_
      refine w_mv (pc1 := 122) (st1 := [.int 1, .int p2, .ref x22, .ref 5]) rfl rfl rfl ?_
      refine w_mv (pc1 := 123) (st1 := [.int (p2 + 1), .ref x22, .ref 5]) rfl rfl rfl ?_
      obtain ⟨b23b, i23_1, g23, hh⟩ := hh
      refine w_call (M' := sM_104) (vals := [.ref 5, .ref x22, .int (p2 + 1)]) (rest := []) (lv' := [(0, .ref 5), (1, .ref x22), (2, .int (p2 + 1))]) rfl rfl rfl rfl rfl rfl (cH_rcv (by omega) (by omega) g23) rfl rfl rfl ?_
      refine c_dep (d1 := d + 6 + h) (by omega) (hh _ _ _ _ (fun r24 N24 G24 kc24 ks24 hh => ?_))
      obtain ⟨er24, hh⟩ := hh
      subst er24
      refine w_kv (pc1 := 126) rfl ?_
      refine w_mv (pc1 := 129) (lv1 := [(4, .int (p4 + 1)), (0, .ref 5), (1, .ref y1), (2, .int p2), (3, .ref y3)]) (st1 := []) rfl rfl rfl ?_
      refine w_mv (pc1 := 83) (st1 := []) rfl rfl rfl ?_
      refine w_wk (l1 := [(0, .ref 5), (1, .ref y1), (2, .int p2), (3, .ref y3), (4, .int (p4 + 1))]) rfl ⟨rfl, rfl, rfl, rfl, rfl, trivial⟩ ?_
      refine hh d _ _ P (fun r N1 G1 kc1 ks1 q => ?_)
      exact c_acc (hP r N1 G1 _ _ q) (by omega) (by omega)
set_option maxRecDepth 20000 in
set_option maxHeartbeats 4000000 in
theorem k_106_0 {p1 : Int32} {N : Nat} {G : Nat → sx_C} {K : Option Value ⊕ Nat → Nat → (Nat → sx_C) → Nat → Nat → Prop} (hh : ((p1.toInt < 0 → K (.inr (N)) (N + 1) (va_up G N (.inr (.inr 0))) (1) (6)) ∧ (0 ≤ p1.toInt → ((p1.toInt < 26 → 5 < N ∧ ∃ (i3_1 : Int32), G 5 = .inr (.inl (0, [.ref 6, .int i3_1, .ref 8, .ref 9, .ref 31])) ∧ 9 < N ∧ ∃ (i4_5 : Int32) (i4_6 : Int32) (i4_7 : Int32), G 9 = .inr (.inl (2, [.ref 10, .ref 17, .ref 18, .ref 20, .ref 22, .int i4_5, .int i4_6, .int i4_7])) ∧ ((p1.toInt < 0 → K (.inl (some (.int (-1)))) (N) G (0) (0)) ∧ (0 ≤ p1.toInt → ((26 ≤ p1.toInt → K (.inl (some (.int (-1)))) (N) G (0) (0)) ∧ (p1.toInt < 26 → 22 < N ∧ ∃ (f7 : Nat → Option Nat), G 22 = .inl (6, (26, .inr (.inr (.inr (.inr f7))))) ∧ 0 ≤ p1.toInt ∧ p1.toInt < (26 : Nat) ∧ ∀ o9, o9 = f7 p1.toNatClampNeg → ((o9 = none → K (.inl (some (.int (-1)))) (N) G (0) (0)) ∧ (∀ x10, o9 = some x10 → 5 ≤ x10 ∧ x10 < N ∧ ∃ (i11_1 : Int32) (i11_2 : Int32) (i11_3 : Int32) (o11_4 : Option Nat), G x10 = .inr (.inl (10, [.ref (x10 + 1), .int i11_1, .int i11_2, .int i11_3, va_rf o11_4])) ∧ cT (1) sM_74 0 [(0, .ref x10)] [] (N) G (fun r12 N12 G12 kc12 ks12 => N = N12 ∧ G = G12 ∧ 0 = kc12 ∧ 0 = ks12 ∧ ∃ o12 : Option Nat, r12 = .inl (some (va_rf o12)) ∧ ((o12 = none → cT (2) sM_107 0 [(0, .ref 9), (1, .null)] [] (N) G (fun r14 N14 G14 kc14 ks14 => N = N14 ∧ G = G14 ∧ 0 = kc14 ∧ 0 = ks14 ∧ ∃ v14 : Int32, r14 = .inl (some (.int v14)) ∧ K (.inl (some (.int v14))) (N) G (0) (0))) ∧ (∀ x13, o12 = some x13 → cT (2) sM_107 0 [(0, .ref 9), (1, .ref x13)] [] (N) G (fun r15 N15 G15 kc15 ks15 => N = N15 ∧ G = G15 ∧ 0 = kc15 ∧ 0 = ks15 ∧ ∃ v15 : Int32, r15 = .inl (some (.int v15)) ∧ K (.inl (some (.int v15))) (N) G (0) (0)))))))))))) ∧ (26 ≤ p1.toInt → K (.inr (N)) (N + 1) (va_up G N (.inr (.inr 0))) (1) (6)))))) : cT (6) sM_106 0 [(0, .ref 5), (1, .int p1)] [] N G K := by
  intro d dc ds P hP
  refine w_mv (pc1 := 1) (st1 := [.int p1]) rfl rfl rfl ?_
  by_cases h1 : p1.toInt < 0
  ·
    replace hh := hh.1 h1
    refine w_zlt_T (pc1 := 10) rfl rfl (show p1.toInt < 0 from h1) ?_
    refine cw_thr rfl rfl (by omega) (Nat.le_of_ble_eq_true rfl) ?_
    exact c_acc (hP _ _ _ _ _ hh) (by omega) (by omega)
  ·
    replace hh := hh.2 (Int.not_lt.mp h1)
    refine w_zlt_F (pc1 := 4) rfl (by decide) rfl (show 0 ≤ p1.toInt from (Int.not_lt.mp h1)) ?_
    refine w_mv (pc1 := 5) (st1 := [.int p1]) rfl rfl rfl ?_
    refine w_mv (pc1 := 7) (st1 := [.int 26, .int p1]) rfl rfl rfl ?_
    by_cases h2 : p1.toInt < 26
    ·
      replace hh := hh.1 h2
      refine w_ilt_T (pc1 := 18) rfl rfl (show p1.toInt < 26 from h2) ?_
      refine w_mv (pc1 := 19) (st1 := [.ref 5]) rfl rfl rfl ?_
      obtain ⟨b3b, i3_1, g3, hh⟩ := hh
      refine cw_gf (v := .ref 9) (pc1 := 22) rfl (by omega) (by omega) g3 rfl rfl ?_
      refine w_mv (pc1 := 23) (st1 := [.int p1, .ref 9]) rfl rfl rfl ?_
      obtain ⟨b4b, i4_5, i4_6, i4_7, g4, hh⟩ := hh
      refine w_call (M' := sM_103) (vals := [.ref 9, .int p1]) (rest := []) (lv' := [(0, .ref 9), (1, .int p1)]) rfl rfl rfl rfl rfl rfl (cH_rcv (by omega) (by omega) g4) rfl rfl rfl ?_
      refine w_mv (pc1 := 1) (st1 := [.int p1]) rfl rfl rfl ?_
      by_cases h5 : p1.toInt < 0
      ·
        replace hh := hh.1 h5
        refine w_zlt_T (pc1 := 19) rfl rfl (show p1.toInt < 0 from h5) ?_
        refine w_mv (pc1 := 20) (st1 := [.null]) rfl rfl rfl ?_
        refine w_nret (pc1 := 26) rfl rfl rfl rfl ?_
        refine w_mv (pc1 := 27) (lv1 := [(2, .null), (0, .ref 5), (1, .int p1)]) (st1 := []) rfl rfl rfl ?_
        refine w_mv (pc1 := 28) (st1 := [.null]) rfl rfl rfl ?_
        refine w_mv (pc1 := 31) (st1 := []) rfl rfl rfl ?_
        refine w_mv (pc1 := 32) (st1 := [.int (-1)]) rfl rfl rfl ?_
        refine w_mv (pc1 := 46) (st1 := [.int (-1)]) rfl rfl rfl ?_
        refine sx_wp.stop rfl rfl rfl ?_
        exact c_acc (hP _ _ _ _ _ hh) (by omega) (by omega)
      ·
        replace hh := hh.2 (Int.not_lt.mp h5)
        refine w_zlt_F (pc1 := 4) rfl (by decide) rfl (show 0 ≤ p1.toInt from (Int.not_lt.mp h5)) ?_
        refine w_mv (pc1 := 5) (st1 := [.int p1]) rfl rfl rfl ?_
        refine w_mv (pc1 := 7) (st1 := [.int 26, .int p1]) rfl rfl rfl ?_
        by_cases h6 : 26 ≤ p1.toInt
        ·
          replace hh := hh.1 h6
          refine w_ige_T (pc1 := 19) rfl rfl (show 26 ≤ p1.toInt from h6) ?_
          refine w_mv (pc1 := 20) (st1 := [.null]) rfl rfl rfl ?_
          refine w_nret (pc1 := 26) rfl rfl rfl rfl ?_
          refine w_mv (pc1 := 27) (lv1 := [(2, .null), (0, .ref 5), (1, .int p1)]) (st1 := []) rfl rfl rfl ?_
          refine w_mv (pc1 := 28) (st1 := [.null]) rfl rfl rfl ?_
          refine w_mv (pc1 := 31) (st1 := []) rfl rfl rfl ?_
          refine w_mv (pc1 := 32) (st1 := [.int (-1)]) rfl rfl rfl ?_
          refine w_mv (pc1 := 46) (st1 := [.int (-1)]) rfl rfl rfl ?_
          refine sx_wp.stop rfl rfl rfl ?_
          exact c_acc (hP _ _ _ _ _ hh) (by omega) (by omega)
        ·
          replace hh := hh.2 (Int.not_le.mp h6)
          refine w_ige_F (pc1 := 10) rfl (by decide) rfl (show p1.toInt < 26 from (Int.not_le.mp h6)) ?_
          refine w_mv (pc1 := 11) (st1 := [.ref 9]) rfl rfl rfl ?_
          refine cw_gf (v := .ref 22) (pc1 := 14) rfl (by omega) (by omega) g4 rfl rfl ?_
          refine w_mv (pc1 := 15) (st1 := [.int p1, .ref 22]) rfl rfl rfl ?_
          obtain ⟨b7b, f7, g7, hh⟩ := hh
          obtain ⟨q8a, q8b, hh⟩ := hh
          refine cw_ald (pc1 := 16) rfl (by omega) g7 rfl q8a q8b rfl ?_
          obtain ⟨o9, e9⟩ : ∃ o, o = f7 p1.toNatClampNeg := ⟨_, rfl⟩
          replace hh := hh o9 e9
          rw [← e9]
          refine w_mv (pc1 := 20) (st1 := [va_rf o9]) rfl rfl rfl ?_
          cases o9 with
          | none =>
            replace hh := hh.1 rfl
            refine w_nret (pc1 := 26) rfl rfl rfl rfl ?_
            refine w_mv (pc1 := 27) (lv1 := [(2, .null), (0, .ref 5), (1, .int p1)]) (st1 := []) rfl rfl rfl ?_
            refine w_mv (pc1 := 28) (st1 := [.null]) rfl rfl rfl ?_
            refine w_mv (pc1 := 31) (st1 := []) rfl rfl rfl ?_
            refine w_mv (pc1 := 32) (st1 := [.int (-1)]) rfl rfl rfl ?_
            refine w_mv (pc1 := 46) (st1 := [.int (-1)]) rfl rfl rfl ?_
            refine sx_wp.stop rfl rfl rfl ?_
            exact c_acc (hP _ _ _ _ _ hh) (by omega) (by omega)
          | some x10 =>
            replace hh := hh.2 x10 rfl
            refine w_aret (pc1 := 26) rfl rfl rfl rfl ?_
            refine w_mv (pc1 := 27) (lv1 := [(2, .ref x10), (0, .ref 5), (1, .int p1)]) (st1 := []) rfl rfl rfl ?_
            refine w_mv (pc1 := 28) (st1 := [.ref x10]) rfl rfl rfl ?_
            refine w_mv (pc1 := 35) (st1 := []) rfl rfl rfl ?_
            refine w_mv (pc1 := 36) (st1 := [.ref 5]) rfl rfl rfl ?_
            refine cw_gf (v := .ref 9) (pc1 := 39) rfl (by omega) (by omega) g3 rfl rfl ?_
            refine w_mv (pc1 := 40) (st1 := [.ref x10, .ref 9]) rfl rfl rfl ?_
            obtain ⟨b11a, b11b, i11_1, i11_2, i11_3, o11_4, g11, hh⟩ := hh
            refine w_call (M' := sM_74) (vals := [.ref x10]) (rest := [.ref 9]) (lv' := [(0, .ref x10)]) rfl rfl rfl rfl rfl rfl (cH_rcv (by omega) (by omega) g11) rfl rfl rfl ?_
            refine hh _ _ _ _ (fun r12 N12 G12 kc12 ks12 hh => ?_)
            obtain ⟨eN12, eG12, ek12, es12, hh⟩ := hh
            subst eN12
            subst eG12
            subst ek12
            subst es12
            obtain ⟨o12, er12, hh⟩ := hh
            subst er12
            refine w_kr (pc1 := 43) rfl ?_
            cases o12 with
            | none =>
              replace hh := hh.1 rfl
              refine w_call (M' := sM_107) (vals := [.ref 9, .null]) (rest := []) (lv' := [(0, .ref 9), (1, .null)]) rfl rfl rfl rfl rfl rfl (cH_rcv (by omega) (by omega) g4) rfl rfl rfl ?_
              refine hh _ _ _ _ (fun r14 N14 G14 kc14 ks14 hh => ?_)
              obtain ⟨eN14, eG14, ek14, es14, hh⟩ := hh
              subst eN14
              subst eG14
              subst ek14
              subst es14
              obtain ⟨v14, er14, hh⟩ := hh
              subst er14
              refine w_ki (pc1 := 46) rfl ?_
              refine sx_wp.stop rfl rfl rfl ?_
              exact c_acc (hP _ _ _ _ _ hh) (by omega) (by omega)
            | some x13 =>
              replace hh := hh.2 x13 rfl
              refine w_call (M' := sM_107) (vals := [.ref 9, .ref x13]) (rest := []) (lv' := [(0, .ref 9), (1, .ref x13)]) rfl rfl rfl rfl rfl rfl (cH_rcv (by omega) (by omega) g4) rfl rfl rfl ?_
              refine hh _ _ _ _ (fun r15 N15 G15 kc15 ks15 hh => ?_)
              obtain ⟨eN15, eG15, ek15, es15, hh⟩ := hh
              subst eN15
              subst eG15
              subst ek15
              subst es15
              obtain ⟨v15, er15, hh⟩ := hh
              subst er15
              refine w_ki (pc1 := 46) rfl ?_
              refine sx_wp.stop rfl rfl rfl ?_
              exact c_acc (hP _ _ _ _ _ hh) (by omega) (by omega)
    ·
      replace hh := hh.2 (Int.not_lt.mp h2)
      refine w_ilt_F (pc1 := 10) rfl (by decide) rfl (show 26 ≤ p1.toInt from (Int.not_lt.mp h2)) ?_
      refine cw_thr rfl rfl (by omega) (Nat.le_of_ble_eq_true rfl) ?_
      exact c_acc (hP _ _ _ _ _ hh) (by omega) (by omega)
set_option maxRecDepth 20000 in
set_option maxHeartbeats 4000000 in
theorem k_107_0 {y1 : Nat} {N : Nat} {G : Nat → sx_C} {K : Option Value ⊕ Nat → Nat → (Nat → sx_C) → Nat → Nat → Prop} (hh : cT (2) sM_107 4 [(0, .ref 9), (1, .ref y1), (2, .int 0), (3, .int 0)] [] (N) G (fun r N1 G1 kc1 ks1 => K r N1 G1 (kc1) (ks1))) : cT (2) sM_107 0 [(0, .ref 9), (1, .ref y1)] [] N G K := by
  intro d dc ds P hP
  refine w_mv (pc1 := 1) (st1 := [.int 0]) rfl rfl rfl ?_
  refine w_mv (pc1 := 2) (lv1 := [(2, .int 0), (0, .ref 9), (1, .ref y1)]) (st1 := []) rfl rfl rfl ?_
  refine w_mv (pc1 := 3) (st1 := [.int 0]) rfl rfl rfl ?_
  refine w_mv (pc1 := 4) (lv1 := [(3, .int 0), (2, .int 0), (0, .ref 9), (1, .ref y1)]) (st1 := []) rfl rfl rfl ?_
  refine w_wk (l1 := [(0, .ref 9), (1, .ref y1), (2, .int 0), (3, .int 0)]) rfl ⟨rfl, rfl, rfl, rfl, trivial⟩ ?_
  refine hh d _ _ P (fun r N1 G1 kc1 ks1 q => ?_)
  exact c_acc (hP r N1 G1 _ _ q) (by omega) (by omega)
