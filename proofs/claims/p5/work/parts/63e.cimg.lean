/-! THE IMAGES of the class and of the JDK methods that it calls (by program: wip/sx/gen_cimg.py) -/
set_option maxRecDepth 20000 in
set_option maxHeartbeats 4000000 in
theorem k_67_40 {p1 : Int32} {p2 : Int32} {N : Nat} {G : Nat → sx_C} {K : Option Value ⊕ Nat → Nat → (Nat → sx_C) → Nat → Nat → Prop} (hh : ((p1.toInt ≤ p2.toInt → 5 < N ∧ ∃ (i2_1 : Int32), G 5 = .inr (.inl (0, [.ref 6, .int i2_1, .ref 8, .ref 9, .ref 31])) ∧ 9 < N ∧ ∃ (i3_5 : Int32) (i3_6 : Int32) (i3_7 : Int32), G 9 = .inr (.inl (2, [.ref 10, .ref 17, .ref 18, .ref 20, .ref 22, .int i3_5, .int i3_6, .int i3_7])) ∧ ((i3_5.toInt ≠ 2 → ((i3_5.toInt ≠ 3 → cT (3) sM_68 0 [(0, .ref 9)] [] (N) G (fun r6 N6 G6 kc6 ks6 => N = N6 ∧ G = G6 ∧ 0 = kc6 ∧ 0 = ks6 ∧ ∃ v6 : Int32, r6 = .inl (some (.int v6)) ∧ ((v6.toInt = 0 → 18 < N ∧ ∃ (i8_1 : Int32), G 18 = .inr (.inl (6, [.ref 19, .int i8_1])) ∧ ((i8_1.toInt ≠ 0 → K (.inl (some (.int 2))) (N) G (0) (0)) ∧ (i8_1.toInt = 0 → K (.inl (some (.int 1))) (N) G (0) (0)))) ∧ (v6.toInt ≠ 0 → K (.inl (some (.int 0))) (N) G (0) (0))))) ∧ (i3_5.toInt = 3 → K (.inr (N)) (N + 1) (va_up G N (.inr (.inr 1))) (1) (6)))) ∧ (i3_5.toInt = 2 → K (.inr (N)) (N + 1) (va_up G N (.inr (.inr 2))) (1) (6)))) ∧ (p2.toInt < p1.toInt → 5 < N ∧ ∃ (i10_1 : Int32), G 5 = .inr (.inl (0, [.ref 6, .int i10_1, .ref 8, .ref 9, .ref 31])) ∧ 9 < N ∧ ∃ (i11_5 : Int32) (i11_6 : Int32) (i11_7 : Int32), G 9 = .inr (.inl (2, [.ref 10, .ref 17, .ref 18, .ref 20, .ref 22, .int i11_5, .int i11_6, .int i11_7])) ∧ cT (3) sM_68 0 [(0, .ref 9)] [] (N) G (fun r12 N12 G12 kc12 ks12 => N = N12 ∧ G = G12 ∧ 0 = kc12 ∧ 0 = ks12 ∧ ∃ v12 : Int32, r12 = .inl (some (.int v12)) ∧ ((v12.toInt = 0 → ((i11_5.toInt ≠ 2 → ((i11_5.toInt ≠ 3 → cT (3) sM_68 0 [(0, .ref 9)] [] (N) G (fun r16 N16 G16 kc16 ks16 => N = N16 ∧ G = G16 ∧ 0 = kc16 ∧ 0 = ks16 ∧ ∃ v16 : Int32, r16 = .inl (some (.int v16)) ∧ ((v16.toInt = 0 → 18 < N ∧ ∃ (i18_1 : Int32), G 18 = .inr (.inl (6, [.ref 19, .int i18_1])) ∧ ((i18_1.toInt ≠ 0 → K (.inl (some (.int 2))) (N) G (0) (0)) ∧ (i18_1.toInt = 0 → K (.inl (some (.int 1))) (N) G (0) (0)))) ∧ (v16.toInt ≠ 0 → K (.inl (some (.int 0))) (N) G (0) (0))))) ∧ (i11_5.toInt = 3 → K (.inr (N)) (N + 1) (va_up G N (.inr (.inr 1))) (1) (6)))) ∧ (i11_5.toInt = 2 → K (.inr (N)) (N + 1) (va_up G N (.inr (.inr 2))) (1) (6)))) ∧ (v12.toInt ≠ 0 → cT (83) sM_69 0 [(0, .ref 9), (1, .ref 8)] [] (N) G (fun r20 N20 G20 kc20 ks20 => r20 = .inl none ∧ cT (84) sM_67 40 [(0, .ref 5), (1, .int p1), (2, .int (p2 + 1))] [] (N20) G20 (fun r N1 G1 kc1 ks1 => K r N1 G1 (kc20 + kc1) (ks20 + ks1))))))))) : cT (84) sM_67 40 [(0, .ref 5), (1, .int p1), (2, .int p2)] [] N G K := by
  intro d dc ds P hP
  refine w_mv (pc1 := 41) (st1 := [.int p2]) rfl rfl rfl ?_
  refine w_mv (pc1 := 42) (st1 := [.int p1, .int p2]) rfl rfl rfl ?_
  by_cases h1 : p1.toInt ≤ p2.toInt
  ·
    replace hh := hh.1 h1
    refine w_ige_T (pc1 := 72) rfl rfl (show p1.toInt ≤ p2.toInt from h1) ?_
    refine w_mv (pc1 := 73) (st1 := [.ref 5]) rfl rfl rfl ?_
    obtain ⟨b2b, i2_1, g2, hh⟩ := hh
    refine cw_gf (v := .ref 9) (pc1 := 76) rfl (by omega) (by omega) g2 rfl rfl ?_
    obtain ⟨b3b, i3_5, i3_6, i3_7, g3, hh⟩ := hh
    refine w_call (M' := sM_16) (vals := [.ref 9]) (rest := []) (lv' := [(0, .ref 9)]) rfl rfl rfl rfl rfl rfl (cH_rcv (by omega) (by omega) g3) rfl rfl rfl ?_
    refine w_mv (pc1 := 1) (st1 := [.ref 9]) rfl rfl rfl ?_
    refine cw_gf (v := .int i3_5) (pc1 := 4) rfl (by omega) (by omega) g3 rfl rfl ?_
    refine w_iret (pc1 := 79) rfl rfl rfl rfl ?_
    refine w_mv (pc1 := 80) (st1 := [.int 2, .int i3_5]) rfl rfl rfl ?_
    by_cases h4 : i3_5.toInt = 2
    ·
      replace hh := hh.2 h4
      refine w_ine_F (pc1 := 83) rfl (by decide) rfl (show i3_5.toInt = 2 from h4) ?_
      refine cw_thr rfl rfl (by omega) (Nat.le_of_ble_eq_true rfl) ?_
      exact c_acc (hP _ _ _ _ _ hh) (by omega) (by omega)
    ·
      replace hh := hh.1 h4
      refine w_ine_T (pc1 := 91) rfl rfl (show i3_5.toInt ≠ 2 from h4) ?_
      refine w_mv (pc1 := 92) (st1 := [.ref 5]) rfl rfl rfl ?_
      refine cw_gf (v := .ref 9) (pc1 := 95) rfl (by omega) (by omega) g2 rfl rfl ?_
      refine w_call (M' := sM_16) (vals := [.ref 9]) (rest := []) (lv' := [(0, .ref 9)]) rfl rfl rfl rfl rfl rfl (cH_rcv (by omega) (by omega) g3) rfl rfl rfl ?_
      refine w_mv (pc1 := 1) (st1 := [.ref 9]) rfl rfl rfl ?_
      refine cw_gf (v := .int i3_5) (pc1 := 4) rfl (by omega) (by omega) g3 rfl rfl ?_
      refine w_iret (pc1 := 98) rfl rfl rfl rfl ?_
      refine w_mv (pc1 := 99) (st1 := [.int 3, .int i3_5]) rfl rfl rfl ?_
      by_cases h5 : i3_5.toInt = 3
      ·
        replace hh := hh.2 h5
        refine w_ine_F (pc1 := 102) rfl (by decide) rfl (show i3_5.toInt = 3 from h5) ?_
        refine cw_thr rfl rfl (by omega) (Nat.le_of_ble_eq_true rfl) ?_
        exact c_acc (hP _ _ _ _ _ hh) (by omega) (by omega)
      ·
        replace hh := hh.1 h5
        refine w_ine_T (pc1 := 110) rfl rfl (show i3_5.toInt ≠ 3 from h5) ?_
        refine w_mv (pc1 := 111) (st1 := [.ref 5]) rfl rfl rfl ?_
        refine cw_gf (v := .ref 9) (pc1 := 114) rfl (by omega) (by omega) g2 rfl rfl ?_
        refine w_call (M' := sM_68) (vals := [.ref 9]) (rest := []) (lv' := [(0, .ref 9)]) rfl rfl rfl rfl rfl rfl (cH_rcv (by omega) (by omega) g3) rfl rfl rfl ?_
        refine hh _ _ _ _ (fun r6 N6 G6 kc6 ks6 hh => ?_)
        obtain ⟨eN6, eG6, ek6, es6, hh⟩ := hh
        subst eN6
        subst eG6
        subst ek6
        subst es6
        obtain ⟨v6, er6, hh⟩ := hh
        subst er6
        refine w_ki (pc1 := 117) rfl ?_
        by_cases h7 : v6.toInt = 0
        ·
          replace hh := hh.1 h7
          refine w_zeq_T (pc1 := 122) rfl rfl (show v6.toInt = 0 from h7) ?_
          refine w_mv (pc1 := 123) (st1 := [.ref 5]) rfl rfl rfl ?_
          refine cw_gf (v := .ref 9) (pc1 := 126) rfl (by omega) (by omega) g2 rfl rfl ?_
          refine w_call (M' := sM_12) (vals := [.ref 9]) (rest := []) (lv' := [(0, .ref 9)]) rfl rfl rfl rfl rfl rfl (cH_rcv (by omega) (by omega) g3) rfl rfl rfl ?_
          refine w_mv (pc1 := 1) (st1 := [.ref 9]) rfl rfl rfl ?_
          refine cw_gf (v := .ref 18) (pc1 := 4) rfl (by omega) (by omega) g3 rfl rfl ?_
          obtain ⟨b8b, i8_1, g8, hh⟩ := hh
          refine w_call (M' := sM_11) (vals := [.ref 18]) (rest := []) (lv' := [(0, .ref 18)]) rfl rfl rfl rfl rfl rfl (cH_rcv (by omega) (by omega) g8) rfl rfl rfl ?_
          refine w_mv (pc1 := 1) (st1 := [.ref 18]) rfl rfl rfl ?_
          refine cw_gf (v := .int i8_1) (pc1 := 4) rfl (by omega) (by omega) g8 rfl rfl ?_
          refine w_iret (pc1 := 7) rfl rfl rfl rfl ?_
          refine w_iret (pc1 := 129) rfl rfl rfl rfl ?_
          by_cases h9 : i8_1.toInt = 0
          ·
            replace hh := hh.2 h9
            refine w_zne_F (pc1 := 132) rfl (by decide) rfl (show i8_1.toInt = 0 from h9) ?_
            refine w_mv (pc1 := 133) (st1 := [.int 1]) rfl rfl rfl ?_
            refine w_mv (pc1 := 137) (st1 := [.int 1]) rfl rfl rfl ?_
            refine sx_wp.stop rfl rfl rfl ?_
            exact c_acc (hP _ _ _ _ _ hh) (by omega) (by omega)
          ·
            replace hh := hh.1 h9
            refine w_zne_T (pc1 := 136) rfl rfl (show i8_1.toInt ≠ 0 from h9) ?_
            refine w_mv (pc1 := 137) (st1 := [.int 2]) rfl rfl rfl ?_
            refine sx_wp.stop rfl rfl rfl ?_
            exact c_acc (hP _ _ _ _ _ hh) (by omega) (by omega)
        ·
          replace hh := hh.2 h7
          refine w_zeq_F (pc1 := 120) rfl (by decide) rfl (show v6.toInt ≠ 0 from h7) ?_
          refine w_mv (pc1 := 121) (st1 := [.int 0]) rfl rfl rfl ?_
          refine sx_wp.stop rfl rfl rfl ?_
          exact c_acc (hP _ _ _ _ _ hh) (by omega) (by omega)
  ·
    replace hh := hh.2 (Int.not_le.mp h1)
    refine w_ige_F (pc1 := 45) rfl (by decide) rfl (show p2.toInt < p1.toInt from (Int.not_le.mp h1)) ?_
    refine w_mv (pc1 := 46) (st1 := [.ref 5]) rfl rfl rfl ?_
    obtain ⟨b10b, i10_1, g10, hh⟩ := hh
    refine cw_gf (v := .ref 9) (pc1 := 49) rfl (by omega) (by omega) g10 rfl rfl ?_
    obtain ⟨b11b, i11_5, i11_6, i11_7, g11, hh⟩ := hh
    refine w_call (M' := sM_68) (vals := [.ref 9]) (rest := []) (lv' := [(0, .ref 9)]) rfl rfl rfl rfl rfl rfl (cH_rcv (by omega) (by omega) g11) rfl rfl rfl ?_
    refine hh _ _ _ _ (fun r12 N12 G12 kc12 ks12 hh => ?_)
    obtain ⟨eN12, eG12, ek12, es12, hh⟩ := hh
    subst eN12
    subst eG12
    subst ek12
    subst es12
    obtain ⟨v12, er12, hh⟩ := hh
    subst er12
    refine w_ki (pc1 := 52) rfl ?_
    by_cases h13 : v12.toInt = 0
    ·
      replace hh := hh.1 h13
      refine w_zeq_T (pc1 := 72) rfl rfl (show v12.toInt = 0 from h13) ?_
      refine w_mv (pc1 := 73) (st1 := [.ref 5]) rfl rfl rfl ?_
      refine cw_gf (v := .ref 9) (pc1 := 76) rfl (by omega) (by omega) g10 rfl rfl ?_
      refine w_call (M' := sM_16) (vals := [.ref 9]) (rest := []) (lv' := [(0, .ref 9)]) rfl rfl rfl rfl rfl rfl (cH_rcv (by omega) (by omega) g11) rfl rfl rfl ?_
      refine w_mv (pc1 := 1) (st1 := [.ref 9]) rfl rfl rfl ?_
      refine cw_gf (v := .int i11_5) (pc1 := 4) rfl (by omega) (by omega) g11 rfl rfl ?_
      refine w_iret (pc1 := 79) rfl rfl rfl rfl ?_
      refine w_mv (pc1 := 80) (st1 := [.int 2, .int i11_5]) rfl rfl rfl ?_
      by_cases h14 : i11_5.toInt = 2
      ·
        replace hh := hh.2 h14
        refine w_ine_F (pc1 := 83) rfl (by decide) rfl (show i11_5.toInt = 2 from h14) ?_
        refine cw_thr rfl rfl (by omega) (Nat.le_of_ble_eq_true rfl) ?_
        exact c_acc (hP _ _ _ _ _ hh) (by omega) (by omega)
      ·
        replace hh := hh.1 h14
        refine w_ine_T (pc1 := 91) rfl rfl (show i11_5.toInt ≠ 2 from h14) ?_
        refine w_mv (pc1 := 92) (st1 := [.ref 5]) rfl rfl rfl ?_
        refine cw_gf (v := .ref 9) (pc1 := 95) rfl (by omega) (by omega) g10 rfl rfl ?_
        refine w_call (M' := sM_16) (vals := [.ref 9]) (rest := []) (lv' := [(0, .ref 9)]) rfl rfl rfl rfl rfl rfl (cH_rcv (by omega) (by omega) g11) rfl rfl rfl ?_
        refine w_mv (pc1 := 1) (st1 := [.ref 9]) rfl rfl rfl ?_
        refine cw_gf (v := .int i11_5) (pc1 := 4) rfl (by omega) (by omega) g11 rfl rfl ?_
        refine w_iret (pc1 := 98) rfl rfl rfl rfl ?_
        refine w_mv (pc1 := 99) (st1 := [.int 3, .int i11_5]) rfl rfl rfl ?_
        by_cases h15 : i11_5.toInt = 3
        ·
          replace hh := hh.2 h15
          refine w_ine_F (pc1 := 102) rfl (by decide) rfl (show i11_5.toInt = 3 from h15) ?_
          refine cw_thr rfl rfl (by omega) (Nat.le_of_ble_eq_true rfl) ?_
          exact c_acc (hP _ _ _ _ _ hh) (by omega) (by omega)
        ·
          replace hh := hh.1 h15
          refine w_ine_T (pc1 := 110) rfl rfl (show i11_5.toInt ≠ 3 from h15) ?_
          refine w_mv (pc1 := 111) (st1 := [.ref 5]) rfl rfl rfl ?_
          refine cw_gf (v := .ref 9) (pc1 := 114) rfl (by omega) (by omega) g10 rfl rfl ?_
          refine w_call (M' := sM_68) (vals := [.ref 9]) (rest := []) (lv' := [(0, .ref 9)]) rfl rfl rfl rfl rfl rfl (cH_rcv (by omega) (by omega) g11) rfl rfl rfl ?_
          refine hh _ _ _ _ (fun r16 N16 G16 kc16 ks16 hh => ?_)
          obtain ⟨eN16, eG16, ek16, es16, hh⟩ := hh
          subst eN16
          subst eG16
          subst ek16
          subst es16
          obtain ⟨v16, er16, hh⟩ := hh
          subst er16
          refine w_ki (pc1 := 117) rfl ?_
          by_cases h17 : v16.toInt = 0
          ·
            replace hh := hh.1 h17
            refine w_zeq_T (pc1 := 122) rfl rfl (show v16.toInt = 0 from h17) ?_
            refine w_mv (pc1 := 123) (st1 := [.ref 5]) rfl rfl rfl ?_
            refine cw_gf (v := .ref 9) (pc1 := 126) rfl (by omega) (by omega) g10 rfl rfl ?_
            refine w_call (M' := sM_12) (vals := [.ref 9]) (rest := []) (lv' := [(0, .ref 9)]) rfl rfl rfl rfl rfl rfl (cH_rcv (by omega) (by omega) g11) rfl rfl rfl ?_
            refine w_mv (pc1 := 1) (st1 := [.ref 9]) rfl rfl rfl ?_
            refine cw_gf (v := .ref 18) (pc1 := 4) rfl (by omega) (by omega) g11 rfl rfl ?_
            obtain ⟨b18b, i18_1, g18, hh⟩ := hh
            refine w_call (M' := sM_11) (vals := [.ref 18]) (rest := []) (lv' := [(0, .ref 18)]) rfl rfl rfl rfl rfl rfl (cH_rcv (by omega) (by omega) g18) rfl rfl rfl ?_
            refine w_mv (pc1 := 1) (st1 := [.ref 18]) rfl rfl rfl ?_
            refine cw_gf (v := .int i18_1) (pc1 := 4) rfl (by omega) (by omega) g18 rfl rfl ?_
            refine w_iret (pc1 := 7) rfl rfl rfl rfl ?_
            refine w_iret (pc1 := 129) rfl rfl rfl rfl ?_
            by_cases h19 : i18_1.toInt = 0
            ·
              replace hh := hh.2 h19
              refine w_zne_F (pc1 := 132) rfl (by decide) rfl (show i18_1.toInt = 0 from h19) ?_
              refine w_mv (pc1 := 133) (st1 := [.int 1]) rfl rfl rfl ?_
              refine w_mv (pc1 := 137) (st1 := [.int 1]) rfl rfl rfl ?_
              refine sx_wp.stop rfl rfl rfl ?_
              exact c_acc (hP _ _ _ _ _ hh) (by omega) (by omega)
            ·
              replace hh := hh.1 h19
              refine w_zne_T (pc1 := 136) rfl rfl (show i18_1.toInt ≠ 0 from h19) ?_
              refine w_mv (pc1 := 137) (st1 := [.int 2]) rfl rfl rfl ?_
              refine sx_wp.stop rfl rfl rfl ?_
              exact c_acc (hP _ _ _ _ _ hh) (by omega) (by omega)
          ·
            replace hh := hh.2 h17
            refine w_zeq_F (pc1 := 120) rfl (by decide) rfl (show v16.toInt ≠ 0 from h17) ?_
            refine w_mv (pc1 := 121) (st1 := [.int 0]) rfl rfl rfl ?_
            refine sx_wp.stop rfl rfl rfl ?_
            exact c_acc (hP _ _ _ _ _ hh) (by omega) (by omega)
    ·
      replace hh := hh.2 h13
      refine w_zeq_F (pc1 := 55) rfl (by decide) rfl (show v12.toInt ≠ 0 from h13) ?_
      refine w_mv (pc1 := 56) (st1 := [.ref 5]) rfl rfl rfl ?_
      refine cw_gf (v := .ref 9) (pc1 := 59) rfl (by omega) (by omega) g10 rfl rfl ?_
      refine w_mv (pc1 := 60) (st1 := [.ref 5, .ref 9]) rfl rfl rfl ?_
      refine cw_gf (v := .ref 8) (pc1 := 63) rfl (by omega) (by omega) g10 rfl rfl ?_
      refine w_call (M' := sM_69) (vals := [.ref 9, .ref 8]) (rest := []) (lv' := [(0, .ref 9), (1, .ref 8)]) rfl rfl rfl rfl rfl rfl (cH_rcv (by omega) (by omega) g11) rfl rfl rfl ?_
      refine hh _ _ _ _ (fun r20 N20 G20 kc20 ks20 hh => ?_)
      obtain ⟨er20, hh⟩ := hh
      subst er20
      refine w_kv (pc1 := 66) rfl ?_
      refine w_mv (pc1 := 69) (lv1 := [(2, .int (p2 + 1)), (0, .ref 5), (1, .int p1)]) (st1 := []) rfl rfl rfl ?_
      refine w_mv (pc1 := 40) (st1 := []) rfl rfl rfl ?_
      refine w_wk (l1 := [(0, .ref 5), (1, .int p1), (2, .int (p2 + 1))]) rfl ⟨rfl, rfl, rfl, trivial⟩ ?_
      refine hh d _ _ P (fun r N1 G1 kc1 ks1 q => ?_)
      exact c_acc (hP r N1 G1 _ _ q) (by omega) (by omega)
set_option maxRecDepth 20000 in
set_option maxHeartbeats 4000000 in
theorem k_68_0  {N : Nat} {G : Nat → sx_C} {K : Option Value ⊕ Nat → Nat → (Nat → sx_C) → Nat → Nat → Prop} (hh : 9 < N ∧ ∃ (i1_5 : Int32) (i1_6 : Int32) (i1_7 : Int32), G 9 = .inr (.inl (2, [.ref 10, .ref 17, .ref 18, .ref 20, .ref 22, .int i1_5, .int i1_6, .int i1_7])) ∧ ((i1_5.toInt ≠ 1 → K (.inl (some (.int 0))) (N) G (0) (0)) ∧ (i1_5.toInt = 1 → cT (2) sM_10 0 [(0, .ref 9)] [] (N) G (fun r3 N3 G3 kc3 ks3 => N = N3 ∧ G = G3 ∧ 0 = kc3 ∧ 0 = ks3 ∧ ∃ v3 : Int32, r3 = .inl (some (.int v3)) ∧ ((v3.toInt ≤ 0 → K (.inl (some (.int 0))) (N) G (0) (0)) ∧ (0 < v3.toInt → K (.inl (some (.int 1))) (N) G (0) (0))))))) : cT (3) sM_68 0 [(0, .ref 9)] [] N G K := by
  intro d dc ds P hP
  refine w_mv (pc1 := 1) (st1 := [.ref 9]) rfl rfl rfl ?_
  obtain ⟨b1b, i1_5, i1_6, i1_7, g1, hh⟩ := hh
  refine cw_gf (v := .int i1_5) (pc1 := 4) rfl (by omega) (by omega) g1 rfl rfl ?_
  refine w_mv (pc1 := 5) (st1 := [.int 1, .int i1_5]) rfl rfl rfl ?_
  by_cases h2 : i1_5.toInt = 1
  ·
    replace hh := hh.2 h2
    refine w_ine_F (pc1 := 8) rfl (by decide) rfl (show i1_5.toInt = 1 from h2) ?_
    refine w_mv (pc1 := 9) (st1 := [.ref 9]) rfl rfl rfl ?_
    refine w_call (M' := sM_10) (vals := [.ref 9]) (rest := []) (lv' := [(0, .ref 9)]) rfl rfl rfl rfl rfl rfl (cH_rcv (by omega) (by omega) g1) rfl rfl rfl ?_
    refine hh _ _ _ _ (fun r3 N3 G3 kc3 ks3 hh => ?_)
    obtain ⟨eN3, eG3, ek3, es3, hh⟩ := hh
    subst eN3
    subst eG3
    subst ek3
    subst es3
    obtain ⟨v3, er3, hh⟩ := hh
    subst er3
    refine w_ki (pc1 := 12) rfl ?_
    by_cases h4 : v3.toInt ≤ 0
    ·
      replace hh := hh.1 h4
      refine w_zle_T (pc1 := 19) rfl rfl (show v3.toInt ≤ 0 from h4) ?_
      refine w_mv (pc1 := 20) (st1 := [.int 0]) rfl rfl rfl ?_
      refine sx_wp.stop rfl rfl rfl ?_
      exact c_acc (hP _ _ _ _ _ hh) (by omega) (by omega)
    ·
      replace hh := hh.2 (Int.not_le.mp h4)
      refine w_zle_F (pc1 := 15) rfl (by decide) rfl (show 0 < v3.toInt from (Int.not_le.mp h4)) ?_
      refine w_mv (pc1 := 16) (st1 := [.int 1]) rfl rfl rfl ?_
      refine w_mv (pc1 := 20) (st1 := [.int 1]) rfl rfl rfl ?_
      refine sx_wp.stop rfl rfl rfl ?_
      exact c_acc (hP _ _ _ _ _ hh) (by omega) (by omega)
  ·
    replace hh := hh.1 h2
    refine w_ine_T (pc1 := 19) rfl rfl (show i1_5.toInt ≠ 1 from h2) ?_
    refine w_mv (pc1 := 20) (st1 := [.int 0]) rfl rfl rfl ?_
    refine sx_wp.stop rfl rfl rfl ?_
    exact c_acc (hP _ _ _ _ _ hh) (by omega) (by omega)
set_option maxRecDepth 20000 in
set_option maxHeartbeats 4000000 in
theorem k_69_0  {N : Nat} {G : Nat → sx_C} {K : Option Value ⊕ Nat → Nat → (Nat → sx_C) → Nat → Nat → Prop} (hh : 9 < N ∧ ∃ (i1_5 : Int32) (i1_6 : Int32) (i1_7 : Int32), G 9 = .inr (.inl (2, [.ref 10, .ref 17, .ref 18, .ref 20, .ref 22, .int i1_5, .int i1_6, .int i1_7])) ∧ ((i1_6.toInt < 400 → cT (3) sM_70 0 [(0, .ref 9)] [] (N) G (fun r3 N3 G3 kc3 ks3 => ∃ o3 : Option Nat, r3 = .inl (some (va_rf o3)) ∧ ((o3 = none → K (.inl none) (N3) G3 (kc3) (ks3)) ∧ (∀ x4, o3 = some x4 → 9 < N3 ∧ ∃ (i5_5 : Int32) (i5_6 : Int32) (i5_7 : Int32), G3 9 = .inr (.inl (2, [.ref 10, .ref 17, .ref 18, .ref 20, .ref 22, .int i5_5, .int i5_6, .int i5_7])) ∧ 5 ≤ x4 ∧ x4 < N3 ∧ ∃ (i7_0 : Int32) (i7_1 : Int32) (o7_2 : Option Nat) (o7_3 : Option Nat) (o7_4 : Option Nat) (i7_6 : Int32), (va_up G3 9 (.inr (.inl (2, [.ref 10, .ref 17, .ref 18, .ref 20, .ref 22, .int i5_5, .int (i5_6 + 1), .int i5_7])))) x4 = .inr (.inl (11, [.int i7_0, .int i7_1, va_rf o7_2, va_rf o7_3, va_rf o7_4, .ref (x4 + 1), .int i7_6])) ∧ ((i7_0.toInt ≠ 99 → ((i7_0.toInt ≠ 61 → cT (9) sM_99 0 [(0, .ref 9), (1, .ref x4)] [] (N3) (va_up G3 9 (.inr (.inl (2, [.ref 10, .ref 17, .ref 18, .ref 20, .ref 22, .int i5_5, .int (i5_6 + 1), .int i5_7])))) (fun r28 N28 G28 kc28 ks28 => ∃ v28 : Int32, r28 = .inl (some (.int v28)) ∧ 9 < N28 ∧ ∃ (i29_5 : Int32) (i29_6 : Int32) (i29_7 : Int32), G28 9 = .inr (.inl (2, [.ref 10, .ref 17, .ref 18, .ref 20, .ref 22, .int i29_5, .int i29_6, .int i29_7])) ∧ cT (2) sM_92 0 [(0, .ref 9), (1, .ref x4), (2, .int v28)] [] (N28) G28 (fun r30 N30 G30 kc30 ks30 => r30 = .inl none ∧ K (.inl none) (N30) G30 (kc3 + kc28 + kc30) (ks3 + ks28 + ks30)))) ∧ (i7_0.toInt = 61 → ((o7_3 = none → ((o7_2 = none → cT (5) sM_93 0 [(0, .ref 9), (1, .null), (2, .null)] [] (N3) (va_up G3 9 (.inr (.inl (2, [.ref 10, .ref 17, .ref 18, .ref 20, .ref 22, .int i5_5, .int (i5_6 + 1), .int i5_7])))) (fun r15 N15 G15 kc15 ks15 => ∃ v15 : Int32, r15 = .inl (some (.int v15)) ∧ 9 < N15 ∧ ∃ (i16_5 : Int32) (i16_6 : Int32) (i16_7 : Int32), G15 9 = .inr (.inl (2, [.ref 10, .ref 17, .ref 18, .ref 20, .ref 22, .int i16_5, .int i16_6, .int i16_7])) ∧ cT (2) sM_92 0 [(0, .ref 9), (1, .ref x4), (2, .int v15)] [] (N15) G15 (fun r17 N17 G17 kc17 ks17 => r17 = .inl none ∧ K (.inl none) (N17) G17 (kc3 + kc15 + kc17) (ks3 + ks15 + ks17)))) ∧ (∀ x14, o7_2 = some x14 → cT (5) sM_93 0 [(0, .ref 9), (1, .ref x14), (2, .null)] [] (N3) (va_up G3 9 (.inr (.inl (2, [.ref 10, .ref 17, .ref 18, .ref 20, .ref 22, .int i5_5, .int (i5_6 + 1), .int i5_7])))) (fun r18 N18 G18 kc18 ks18 => ∃ v18 : Int32, r18 = .inl (some (.int v18)) ∧ 9 < N18 ∧ ∃ (i19_5 : Int32) (i19_6 : Int32) (i19_7 : Int32), G18 9 = .inr (.inl (2, [.ref 10, .ref 17, .ref 18, .ref 20, .ref 22, .int i19_5, .int i19_6, .int i19_7])) ∧ cT (2) sM_92 0 [(0, .ref 9), (1, .ref x4), (2, .int v18)] [] (N18) G18 (fun r20 N20 G20 kc20 ks20 => r20 = .inl none ∧ K (.inl none) (N20) G20 (kc3 + kc18 + kc20) (ks3 + ks18 + ks20)))))) ∧ (∀ x13, o7_3 = some x13 → ((o7_2 = none → cT (5) sM_93 0 [(0, .ref 9), (1, .null), (2, .ref x13)] [] (N3) (va_up G3 9 (.inr (.inl (2, [.ref 10, .ref 17, .ref 18, .ref 20, .ref 22, .int i5_5, .int (i5_6 + 1), .int i5_7])))) (fun r22 N22 G22 kc22 ks22 => ∃ v22 : Int32, r22 = .inl (some (.int v22)) ∧ 9 < N22 ∧ ∃ (i23_5 : Int32) (i23_6 : Int32) (i23_7 : Int32), G22 9 = .inr (.inl (2, [.ref 10, .ref 17, .ref 18, .ref 20, .ref 22, .int i23_5, .int i23_6, .int i23_7])) ∧ cT (2) sM_92 0 [(0, .ref 9), (1, .ref x4), (2, .int v22)] [] (N22) G22 (fun r24 N24 G24 kc24 ks24 => r24 = .inl none ∧ K (.inl none) (N24) G24 (kc3 + kc22 + kc24) (ks3 + ks22 + ks24)))) ∧ (∀ x21, o7_2 = some x21 → cT (5) sM_93 0 [(0, .ref 9), (1, .ref x21), (2, .ref x13)] [] (N3) (va_up G3 9 (.inr (.inl (2, [.ref 10, .ref 17, .ref 18, .ref 20, .ref 22, .int i5_5, .int (i5_6 + 1), .int i5_7])))) (fun r25 N25 G25 kc25 ks25 => ∃ v25 : Int32, r25 = .inl (some (.int v25)) ∧ 9 < N25 ∧ ∃ (i26_5 : Int32) (i26_6 : Int32) (i26_7 : Int32), G25 9 = .inr (.inl (2, [.ref 10, .ref 17, .ref 18, .ref 20, .ref 22, .int i26_5, .int i26_6, .int i26_7])) ∧ cT (2) sM_92 0 [(0, .ref 9), (1, .ref x4), (2, .int v25)] [] (N25) G25 (fun r27 N27 G27 kc27 ks27 => r27 = .inl none ∧ K (.inl none) (N27) G27 (kc3 + kc25 + kc27) (ks3 + ks25 + ks27)))))))))) ∧ (i7_0.toInt = 99 → cT (82) sM_71 0 [(0, .ref 9), (1, .ref x4), (2, .ref 8)] [] (N3) (va_up G3 9 (.inr (.inl (2, [.ref 10, .ref 17, .ref 18, .ref 20, .ref 22, .int i5_5, .int (i5_6 + 1), .int i5_7])))) (fun r9 N9 G9 kc9 ks9 => ∃ v9 : Int32, r9 = .inl (some (.int v9)) ∧ 9 < N9 ∧ ∃ (i10_5 : Int32) (i10_6 : Int32) (i10_7 : Int32), G9 9 = .inr (.inl (2, [.ref 10, .ref 17, .ref 18, .ref 20, .ref 22, .int i10_5, .int i10_6, .int i10_7])) ∧ cT (2) sM_92 0 [(0, .ref 9), (1, .ref x4), (2, .int v9)] [] (N9) G9 (fun r11 N11 G11 kc11 ks11 => r11 = .inl none ∧ K (.inl none) (N11) G11 (kc3 + kc9 + kc11) (ks3 + ks9 + ks11))))))))) ∧ (400 ≤ i1_6.toInt → K (.inl none) (N) (va_up G 9 (.inr (.inl (2, [.ref 10, .ref 17, .ref 18, .ref 20, .ref 22, .int 3, .int i1_6, .int i1_7])))) (0) (0)))) : cT (83) sM_69 0 [(0, .ref 9), (1, .ref 8)] [] N G K := by
  intro d dc ds P hP
  refine w_mv (pc1 := 1) (st1 := [.ref 9]) rfl rfl rfl ?_
  obtain ⟨b1b, i1_5, i1_6, i1_7, g1, hh⟩ := hh
  refine cw_gf (v := .int i1_6) (pc1 := 4) rfl (by omega) (by omega) g1 rfl rfl ?_
  refine w_mv (pc1 := 7) (st1 := [.int 400, .int i1_6]) rfl rfl rfl ?_
  by_cases h2 : i1_6.toInt < 400
  ·
    replace hh := hh.1 h2
    refine w_ilt_T (pc1 := 16) rfl rfl (show i1_6.toInt < 400 from h2) ?_
    refine w_mv (pc1 := 17) (st1 := [.ref 9]) rfl rfl rfl ?_
    refine w_call (M' := sM_70) (vals := [.ref 9]) (rest := []) (lv' := [(0, .ref 9)]) rfl rfl rfl rfl rfl rfl (cH_rcv (by omega) (by omega) g1) rfl rfl rfl ?_
    refine hh _ _ _ _ (fun r3 N3 G3 kc3 ks3 hh => ?_)
    obtain ⟨o3, er3, hh⟩ := hh
    subst er3
    refine w_kr (pc1 := 20) rfl ?_
    refine w_mv (pc1 := 21) (lv1 := [(2, va_rf o3), (0, .ref 9), (1, .ref 8)]) (st1 := []) rfl rfl (by cases o3 <;> rfl) ?_
    refine w_mv (pc1 := 22) (lv1 := [(2, va_rf o3), (0, .ref 9), (1, .ref 8)]) (st1 := [va_rf o3]) rfl rfl (by cases o3 <;> rfl) ?_
    cases o3 with
    | none =>
      replace hh := hh.1 rfl
      refine w_mv (pc1 := 25) (st1 := []) rfl rfl rfl ?_
      refine sx_wp.stop rfl rfl rfl ?_
      exact c_acc (hP _ _ _ _ _ hh) (by omega) (by omega)
    | some x4 =>
      replace hh := hh.2 x4 rfl
      refine w_mv (pc1 := 26) (st1 := []) rfl rfl rfl ?_
      refine w_mv (pc1 := 27) (st1 := [.ref 9]) rfl rfl rfl ?_
      refine w_mv (pc1 := 28) (st1 := [.ref 9, .ref 9]) rfl rfl rfl ?_
      obtain ⟨b5b, i5_5, i5_6, i5_7, g5, hh⟩ := hh
      refine cw_gf (v := .int i5_6) (pc1 := 31) rfl (by omega) (by omega) g5 rfl rfl ?_
      refine w_mv (pc1 := 32) (st1 := [.int 1, .int i5_6, .ref 9]) rfl rfl rfl ?_
      refine w_mv (pc1 := 33) (st1 := [.int (i5_6 + 1), .ref 9]) rfl rfl rfl ?_
      refine cw_pf (c1 := .inr (.inl (2, [.ref 10, .ref 17, .ref 18, .ref 20, .ref 22, .int i5_5, .int (i5_6 + 1), .int i5_7]))) (pc1 := 36) rfl (by omega) (by omega) g5 rfl rfl rfl rfl ?_
      have g6 : (va_up G3 9 (.inr (.inl (2, [.ref 10, .ref 17, .ref 18, .ref 20, .ref 22, .int i5_5, .int (i5_6 + 1), .int i5_7])))) 9 = .inr (.inl (2, [.ref 10, .ref 17, .ref 18, .ref 20, .ref 22, .int i5_5, .int (i5_6 + 1), .int i5_7])) := up_eq
      refine w_mv (pc1 := 37) (st1 := [.ref x4]) rfl rfl rfl ?_
      obtain ⟨b7a, b7b, i7_0, i7_1, o7_2, o7_3, o7_4, i7_6, g7, hh⟩ := hh
      refine cw_gf (v := .int i7_0) (pc1 := 40) rfl (by omega) (by omega) g7 rfl rfl ?_
      refine w_mv (pc1 := 42) (st1 := [.int 99, .int i7_0]) rfl rfl rfl ?_
      by_cases h8 : i7_0.toInt = 99
      ·
        replace hh := hh.2 h8
        refine w_ine_F (pc1 := 45) rfl (by decide) rfl (show i7_0.toInt = 99 from h8) ?_
        refine w_mv (pc1 := 46) (st1 := [.ref 9]) rfl rfl rfl ?_
        refine w_mv (pc1 := 47) (st1 := [.ref x4, .ref 9]) rfl rfl rfl ?_
        refine w_mv (pc1 := 48) (st1 := [.ref 9, .ref x4, .ref 9]) rfl rfl rfl ?_
        refine w_mv (pc1 := 49) (st1 := [.ref x4, .ref 9, .ref x4, .ref 9]) rfl rfl rfl ?_
        refine w_mv (pc1 := 50) (st1 := [.ref 8, .ref x4, .ref 9, .ref x4, .ref 9]) rfl rfl rfl ?_
        refine w_call (M' := sM_71) (vals := [.ref 9, .ref x4, .ref 8]) (rest := [.ref x4, .ref 9]) (lv' := [(0, .ref 9), (1, .ref x4), (2, .ref 8)]) rfl rfl rfl rfl rfl rfl (cH_rcv (by omega) (by omega) g6) rfl rfl rfl ?_
        refine hh _ _ _ _ (fun r9 N9 G9 kc9 ks9 hh => ?_)
        obtain ⟨v9, er9, hh⟩ := hh
        subst er9
        refine w_ki (pc1 := 53) rfl ?_
        obtain ⟨b10b, i10_5, i10_6, i10_7, g10, hh⟩ := hh
        refine w_call (M' := sM_92) (vals := [.ref 9, .ref x4, .int v9]) (rest := []) (lv' := [(0, .ref 9), (1, .ref x4), (2, .int v9)]) rfl rfl rfl rfl rfl rfl (cH_rcv (by omega) (by omega) g10) rfl rfl rfl ?_
        refine hh _ _ _ _ (fun r11 N11 G11 kc11 ks11 hh => ?_)
        obtain ⟨er11, hh⟩ := hh
        subst er11
        refine w_kv (pc1 := 56) rfl ?_
        refine w_mv (pc1 := 98) (st1 := []) rfl rfl rfl ?_
        refine sx_wp.stop rfl rfl rfl ?_
        exact c_acc (hP _ _ _ _ _ hh) (by omega) (by omega)
      ·
        replace hh := hh.1 h8
        refine w_ine_T (pc1 := 59) rfl rfl (show i7_0.toInt ≠ 99 from h8) ?_
        refine w_mv (pc1 := 60) (st1 := [.ref x4]) rfl rfl rfl ?_
        refine cw_gf (v := .int i7_0) (pc1 := 63) rfl (by omega) (by omega) g7 rfl rfl ?_
        refine w_mv (pc1 := 65) (st1 := [.int 61, .int i7_0]) rfl rfl rfl ?_
        by_cases h12 : i7_0.toInt = 61
        ·
          replace hh := hh.2 h12
          refine w_ine_F (pc1 := 68) rfl (by decide) rfl (show i7_0.toInt = 61 from h12) ?_
          refine w_mv (pc1 := 69) (st1 := [.ref 9]) rfl rfl rfl ?_
          refine w_mv (pc1 := 70) (st1 := [.ref x4, .ref 9]) rfl rfl rfl ?_
          refine w_mv (pc1 := 71) (st1 := [.ref 9, .ref x4, .ref 9]) rfl rfl rfl ?_
          refine w_mv (pc1 := 72) (st1 := [.ref x4, .ref 9, .ref x4, .ref 9]) rfl rfl rfl ?_
          refine cw_gf (v := va_rf o7_2) (pc1 := 75) rfl (by omega) (by omega) g7 rfl rfl ?_
          refine w_mv (pc1 := 76) (st1 := [.ref x4, va_rf o7_2, .ref 9, .ref x4, .ref 9]) rfl rfl rfl ?_
          refine cw_gf (v := va_rf o7_3) (pc1 := 79) rfl (by omega) (by omega) g7 rfl rfl ?_
          cases o7_3 with
          | none =>
            replace hh := hh.1 rfl
            cases o7_2 with
            | none =>
              replace hh := hh.1 rfl
              refine w_call (M' := sM_93) (vals := [.ref 9, .null, .null]) (rest := [.ref x4, .ref 9]) (lv' := [(0, .ref 9), (1, .null), (2, .null)]) rfl rfl rfl rfl rfl rfl (cH_rcv (by omega) (by omega) g6) rfl rfl rfl ?_
              refine hh _ _ _ _ (fun r15 N15 G15 kc15 ks15 hh => ?_)
              obtain ⟨v15, er15, hh⟩ := hh
              subst er15
              refine w_ki (pc1 := 82) rfl ?_
              obtain ⟨b16b, i16_5, i16_6, i16_7, g16, hh⟩ := hh
              refine w_call (M' := sM_92) (vals := [.ref 9, .ref x4, .int v15]) (rest := []) (lv' := [(0, .ref 9), (1, .ref x4), (2, .int v15)]) rfl rfl rfl rfl rfl rfl (cH_rcv (by omega) (by omega) g16) rfl rfl rfl ?_
              refine hh _ _ _ _ (fun r17 N17 G17 kc17 ks17 hh => ?_)
              obtain ⟨er17, hh⟩ := hh
              subst er17
              refine w_kv (pc1 := 85) rfl ?_
              refine w_mv (pc1 := 98) (st1 := []) rfl rfl rfl ?_
              refine sx_wp.stop rfl rfl rfl ?_
              exact c_acc (hP _ _ _ _ _ hh) (by omega) (by omega)
            | some x14 =>
              replace hh := hh.2 x14 rfl
              refine w_call (M' := sM_93) (vals := [.ref 9, .ref x14, .null]) (rest := [.ref x4, .ref 9]) (lv' := [(0, .ref 9), (1, .ref x14), (2, .null)]) rfl rfl rfl rfl rfl rfl (cH_rcv (by omega) (by omega) g6) rfl rfl rfl ?_
              refine hh _ _ _ _ (fun r18 N18 G18 kc18 ks18 hh => ?_)
              obtain ⟨v18, er18, hh⟩ := hh
              subst er18
              refine w_ki (pc1 := 82) rfl ?_
              obtain ⟨b19b, i19_5, i19_6, i19_7, g19, hh⟩ := hh
              refine w_call (M' := sM_92) (vals := [.ref 9, .ref x4, .int v18]) (rest := []) (lv' := [(0, .ref 9), (1, .ref x4), (2, .int v18)]) rfl rfl rfl rfl rfl rfl (cH_rcv (by omega) (by omega) g19) rfl rfl rfl ?_
              refine hh _ _ _ _ (fun r20 N20 G20 kc20 ks20 hh => ?_)
              obtain ⟨er20, hh⟩ := hh
              subst er20
              refine w_kv (pc1 := 85) rfl ?_
              refine w_mv (pc1 := 98) (st1 := []) rfl rfl rfl ?_
              refine sx_wp.stop rfl rfl rfl ?_
              exact c_acc (hP _ _ _ _ _ hh) (by omega) (by omega)
          | some x13 =>
            replace hh := hh.2 x13 rfl
            cases o7_2 with
            | none =>
              replace hh := hh.1 rfl
              refine w_call (M' := sM_93) (vals := [.ref 9, .null, .ref x13]) (rest := [.ref x4, .ref 9]) (lv' := [(0, .ref 9), (1, .null), (2, .ref x13)]) rfl rfl rfl rfl rfl rfl (cH_rcv (by omega) (by omega) g6) rfl rfl rfl ?_
              refine hh _ _ _ _ (fun r22 N22 G22 kc22 ks22 hh => ?_)
              obtain ⟨v22, er22, hh⟩ := hh
              subst er22
              refine w_ki (pc1 := 82) rfl ?_
              obtain ⟨b23b, i23_5, i23_6, i23_7, g23, hh⟩ := hh
              refine w_call (M' := sM_92) (vals := [.ref 9, .ref x4, .int v22]) (rest := []) (lv' := [(0, .ref 9), (1, .ref x4), (2, .int v22)]) rfl rfl rfl rfl rfl rfl (cH_rcv (by omega) (by omega) g23) rfl rfl rfl ?_
              refine hh _ _ _ _ (fun r24 N24 G24 kc24 ks24 hh => ?_)
              obtain ⟨er24, hh⟩ := hh
              subst er24
              refine w_kv (pc1 := 85) rfl ?_
              refine w_mv (pc1 := 98) (st1 := []) rfl rfl rfl ?_
              refine sx_wp.stop rfl rfl rfl ?_
              exact c_acc (hP _ _ _ _ _ hh) (by omega) (by omega)
            | some x21 =>
              replace hh := hh.2 x21 rfl
              refine w_call (M' := sM_93) (vals := [.ref 9, .ref x21, .ref x13]) (rest := [.ref x4, .ref 9]) (lv' := [(0, .ref 9), (1, .ref x21), (2, .ref x13)]) rfl rfl rfl rfl rfl rfl (cH_rcv (by omega) (by omega) g6) rfl rfl rfl ?_
              refine hh _ _ _ _ (fun r25 N25 G25 kc25 ks25 hh => ?_)
              obtain ⟨v25, er25, hh⟩ := hh
              subst er25
              refine w_ki (pc1 := 82) rfl ?_
              obtain ⟨b26b, i26_5, i26_6, i26_7, g26, hh⟩ := hh
              refine w_call (M' := sM_92) (vals := [.ref 9, .ref x4, .int v25]) (rest := []) (lv' := [(0, .ref 9), (1, .ref x4), (2, .int v25)]) rfl rfl rfl rfl rfl rfl (cH_rcv (by omega) (by omega) g26) rfl rfl rfl ?_
              refine hh _ _ _ _ (fun r27 N27 G27 kc27 ks27 hh => ?_)
              obtain ⟨er27, hh⟩ := hh
              subst er27
              refine w_kv (pc1 := 85) rfl ?_
              refine w_mv (pc1 := 98) (st1 := []) rfl rfl rfl ?_
              refine sx_wp.stop rfl rfl rfl ?_
              exact c_acc (hP _ _ _ _ _ hh) (by omega) (by omega)
        ·
          replace hh := hh.1 h12
          refine w_ine_T (pc1 := 88) rfl rfl (show i7_0.toInt ≠ 61 from h12) ?_
          refine w_mv (pc1 := 89) (st1 := [.ref 9]) rfl rfl rfl ?_
          refine w_mv (pc1 := 90) (st1 := [.ref x4, .ref 9]) rfl rfl rfl ?_
          refine w_mv (pc1 := 91) (st1 := [.ref 9, .ref x4, .ref 9]) rfl rfl rfl ?_
          refine w_mv (pc1 := 92) (st1 := [.ref x4, .ref 9, .ref x4, .ref 9]) rfl rfl rfl ?_
          refine w_call (M' := sM_99) (vals := [.ref 9, .ref x4]) (rest := [.ref x4, .ref 9]) (lv' := [(0, .ref 9), (1, .ref x4)]) rfl rfl rfl rfl rfl rfl (cH_rcv (by omega) (by omega) g6) rfl rfl rfl ?_
          refine hh _ _ _ _ (fun r28 N28 G28 kc28 ks28 hh => ?_)
          obtain ⟨v28, er28, hh⟩ := hh
          subst er28
          refine w_ki (pc1 := 95) rfl ?_
          obtain ⟨b29b, i29_5, i29_6, i29_7, g29, hh⟩ := hh
          refine w_call (M' := sM_92) (vals := [.ref 9, .ref x4, .int v28]) (rest := []) (lv' := [(0, .ref 9), (1, .ref x4), (2, .int v28)]) rfl rfl rfl rfl rfl rfl (cH_rcv (by omega) (by omega) g29) rfl rfl rfl ?_
          refine hh _ _ _ _ (fun r30 N30 G30 kc30 ks30 hh => ?_)
          obtain ⟨er30, hh⟩ := hh
          subst er30
          refine w_kv (pc1 := 98) rfl ?_
          refine sx_wp.stop rfl rfl rfl ?_
          exact c_acc (hP _ _ _ _ _ hh) (by omega) (by omega)
  ·
    replace hh := hh.2 (Int.not_lt.mp h2)
    refine w_ilt_F (pc1 := 10) rfl (by decide) rfl (show 400 ≤ i1_6.toInt from (Int.not_lt.mp h2)) ?_
    refine w_mv (pc1 := 11) (st1 := [.ref 9]) rfl rfl rfl ?_
    refine w_mv (pc1 := 12) (st1 := [.int 3, .ref 9]) rfl rfl rfl ?_
    refine cw_pf (c1 := .inr (.inl (2, [.ref 10, .ref 17, .ref 18, .ref 20, .ref 22, .int 3, .int i1_6, .int i1_7]))) (pc1 := 15) rfl (by omega) (by omega) g1 rfl rfl rfl rfl ?_
    have g31 : (va_up G 9 (.inr (.inl (2, [.ref 10, .ref 17, .ref 18, .ref 20, .ref 22, .int 3, .int i1_6, .int i1_7])))) 9 = .inr (.inl (2, [.ref 10, .ref 17, .ref 18, .ref 20, .ref 22, .int 3, .int i1_6, .int i1_7])) := up_eq
    refine sx_wp.stop rfl rfl rfl ?_
    exact c_acc (hP _ _ _ _ _ hh) (by omega) (by omega)
set_option maxRecDepth 20000 in
set_option maxHeartbeats 4000000 in
theorem k_70_0  {N : Nat} {G : Nat → sx_C} {K : Option Value ⊕ Nat → Nat → (Nat → sx_C) → Nat → Nat → Prop} (hh : cT (3) sM_70 2 [(0, .ref 9), (1, .int 3)] [] (N) G (fun r N1 G1 kc1 ks1 => K r N1 G1 (kc1) (ks1))) : cT (3) sM_70 0 [(0, .ref 9)] [] N G K := by
  intro d dc ds P hP
  refine w_mv (pc1 := 1) (st1 := [.int 3]) rfl rfl rfl ?_
  refine w_mv (pc1 := 2) (lv1 := [(1, .int 3), (0, .ref 9)]) (st1 := []) rfl rfl rfl ?_
  refine w_wk (l1 := [(0, .ref 9), (1, .int 3)]) rfl ⟨rfl, rfl, trivial⟩ ?_
  refine hh d _ _ P (fun r N1 G1 kc1 ks1 q => ?_)
  exact c_acc (hP r N1 G1 _ _ q) (by omega) (by omega)
set_option maxRecDepth 20000 in
set_option maxHeartbeats 4000000 in
theorem k_70_2 {p1 : Int32} {N : Nat} {G : Nat → sx_C} {K : Option Value ⊕ Nat → Nat → (Nat → sx_C) → Nat → Nat → Prop} (hh : ((p1.toInt < 0 → K (.inl (some (.null))) (N) G (0) (0)) ∧ (0 ≤ p1.toInt → 9 < N ∧ ∃ (i2_5 : Int32) (i2_6 : Int32) (i2_7 : Int32), G 9 = .inr (.inl (2, [.ref 10, .ref 17, .ref 18, .ref 20, .ref 22, .int i2_5, .int i2_6, .int i2_7])) ∧ 17 < N ∧ ∃ (f3 : Nat → Option Nat), G 17 = .inl (5, (4, .inr (.inr (.inr (.inr f3))))) ∧ 0 ≤ p1.toInt ∧ p1.toInt < (4 : Nat) ∧ ∃ x5, f3 p1.toNatClampNeg = some x5 ∧ 5 ≤ x5 ∧ x5 < N ∧ ∃ (i6_1 : Int32), G x5 = .inr (.inl (6, [.ref (x5 + 1), .int i6_1])) ∧ ((i6_1.toInt ≤ 0 → cT (3) sM_70 2 [(0, .ref 9), (1, .int (p1 + (-1)))] [] (N) G (fun r N1 G1 kc1 ks1 => K r N1 G1 (kc1) (ks1))) ∧ (0 < i6_1.toInt → 0 ≤ p1.toInt ∧ p1.toInt < (4 : Nat) ∧ ∃ x9, f3 p1.toNatClampNeg = some x9 ∧ 5 ≤ x9 ∧ x9 < N ∧ ∃ (i10_1 : Int32), G x9 = .inr (.inl (6, [.ref (x9 + 1), .int i10_1])) ∧ cT (2) sM_50 0 [(0, .ref x9), (1, .int 0)] [] (N) G (fun r11 N11 G11 kc11 ks11 => ∃ o11 : Option Nat, r11 = .inl (some (va_rf o11)) ∧ K (.inl (some (va_rf o11))) (N11) G11 (kc11) (ks11))))))) : cT (3) sM_70 2 [(0, .ref 9), (1, .int p1)] [] N G K := by
  intro d dc ds P hP
  refine w_mv (pc1 := 3) (st1 := [.int p1]) rfl rfl rfl ?_
  by_cases h1 : p1.toInt < 0
  ·
    replace hh := hh.1 h1
    refine w_zlt_T (pc1 := 35) rfl rfl (show p1.toInt < 0 from h1) ?_
    refine w_mv (pc1 := 36) (st1 := [.null]) rfl rfl rfl ?_
    refine sx_wp.stop rfl rfl rfl ?_
    exact c_acc (hP _ _ _ _ _ hh) (by omega) (by omega)
  ·
    replace hh := hh.2 (Int.not_lt.mp h1)
    refine w_zlt_F (pc1 := 6) rfl (by decide) rfl (show 0 ≤ p1.toInt from (Int.not_lt.mp h1)) ?_
    refine w_mv (pc1 := 7) (st1 := [.ref 9]) rfl rfl rfl ?_
    obtain ⟨b2b, i2_5, i2_6, i2_7, g2, hh⟩ := hh
    refine cw_gf (v := .ref 17) (pc1 := 10) rfl (by omega) (by omega) g2 rfl rfl ?_
    refine w_mv (pc1 := 11) (st1 := [.int p1, .ref 17]) rfl rfl rfl ?_
    obtain ⟨b3b, f3, g3, hh⟩ := hh
    obtain ⟨q4a, q4b, hh⟩ := hh
    refine cw_ald (pc1 := 12) rfl (by omega) g3 rfl q4a q4b rfl ?_
    obtain ⟨x5, e5, hh⟩ := hh
    rw [e5]
    obtain ⟨b6a, b6b, i6_1, g6, hh⟩ := hh
    refine w_call (M' := sM_11) (vals := [.ref x5]) (rest := []) (lv' := [(0, .ref x5)]) rfl rfl rfl rfl rfl rfl (cH_rcv (by omega) (by omega) g6) rfl rfl rfl ?_
    refine w_mv (pc1 := 1) (st1 := [.ref x5]) rfl rfl rfl ?_
    refine cw_gf (v := .int i6_1) (pc1 := 4) rfl (by omega) (by omega) g6 rfl rfl ?_
    refine w_iret (pc1 := 15) rfl rfl rfl rfl ?_
    by_cases h7 : i6_1.toInt ≤ 0
    ·
      replace hh := hh.1 h7
      refine w_zle_T (pc1 := 29) rfl rfl (show i6_1.toInt ≤ 0 from h7) ?_
      refine w_mv (pc1 := 32) (lv1 := [(1, .int (p1 + (-1))), (0, .ref 9)]) (st1 := []) rfl rfl rfl ?_
      refine w_mv (pc1 := 2) (st1 := []) rfl rfl rfl ?_
      refine w_wk (l1 := [(0, .ref 9), (1, .int (p1 + (-1)))]) rfl ⟨rfl, rfl, trivial⟩ ?_
      refine hh d _ _ P (fun r N1 G1 kc1 ks1 q => ?_)
      exact c_acc (hP r N1 G1 _ _ q) (by omega) (by omega)
    ·
      replace hh := hh.2 (Int.not_le.mp h7)
      refine w_zle_F (pc1 := 18) rfl (by decide) rfl (show 0 < i6_1.toInt from (Int.not_le.mp h7)) ?_
      refine w_mv (pc1 := 19) (st1 := [.ref 9]) rfl rfl rfl ?_
      refine cw_gf (v := .ref 17) (pc1 := 22) rfl (by omega) (by omega) g2 rfl rfl ?_
      refine w_mv (pc1 := 23) (st1 := [.int p1, .ref 17]) rfl rfl rfl ?_
      obtain ⟨q8a, q8b, hh⟩ := hh
      refine cw_ald (pc1 := 24) rfl (by omega) g3 rfl q8a q8b rfl ?_
      obtain ⟨x9, e9, hh⟩ := hh
      rw [e9]
      refine w_mv (pc1 := 25) (st1 := [.int 0, .ref x9]) rfl rfl rfl ?_
      obtain ⟨b10a, b10b, i10_1, g10, hh⟩ := hh
      refine w_call (M' := sM_50) (vals := [.ref x9, .int 0]) (rest := []) (lv' := [(0, .ref x9), (1, .int 0)]) rfl rfl rfl rfl rfl rfl (cH_rcv (by omega) (by omega) g10) rfl rfl rfl ?_
      refine hh _ _ _ _ (fun r11 N11 G11 kc11 ks11 hh => ?_)
      obtain ⟨o11, er11, hh⟩ := hh
      subst er11
      refine w_kr (pc1 := 28) rfl ?_
      refine sx_wp.stop (v := .inl (some (va_rf o11))) (hs1 := cH (N11) G11) (dc1 := 0) (ds1 := 0) rfl rfl (by cases o11 <;> rfl) ?_
      exact c_acc (hP _ _ _ _ _ hh) (by omega) (by omega)
set_option maxRecDepth 20000 in
set_option maxHeartbeats 4000000 in
theorem k_71_0 {y1 : Nat} {N : Nat} {G : Nat → sx_C} {K : Option Value ⊕ Nat → Nat → (Nat → sx_C) → Nat → Nat → Prop} (hh : cT (82) sM_71 2 [(0, .ref 9), (1, .ref y1), (2, .ref 8), (3, .int 0)] [] (N) G (fun r N1 G1 kc1 ks1 => K r N1 G1 (kc1) (ks1))) : cT (82) sM_71 0 [(0, .ref 9), (1, .ref y1), (2, .ref 8)] [] N G K := by
  intro d dc ds P hP
  refine w_mv (pc1 := 1) (st1 := [.int 0]) rfl rfl rfl ?_
  refine w_mv (pc1 := 2) (lv1 := [(3, .int 0), (0, .ref 9), (1, .ref y1), (2, .ref 8)]) (st1 := []) rfl rfl rfl ?_
  refine w_wk (l1 := [(0, .ref 9), (1, .ref y1), (2, .ref 8), (3, .int 0)]) rfl ⟨rfl, rfl, rfl, rfl, trivial⟩ ?_
  refine hh d _ _ P (fun r N1 G1 kc1 ks1 q => ?_)
  exact c_acc (hP r N1 G1 _ _ q) (by omega) (by omega)
set_option maxRecDepth 20000 in
set_option maxHeartbeats 4000000 in
theorem k_71_2 {y1 : Nat} {p3 : Int32} {N : Nat} {G : Nat → sx_C} {K : Option Value ⊕ Nat → Nat → (Nat → sx_C) → Nat → Nat → Prop} (hh : 8 < N ∧ ∃ (r1_0 : Nat) (i1_1 : Int32) (i1_2 : Int32), G 8 = .inr (.inl (13, [.ref r1_0, .int i1_1, .int i1_2])) ∧ ((i1_1.toInt ≤ p3.toInt → 5 ≤ y1 ∧ y1 < N ∧ ∃ (i3_0 : Int32) (i3_1 : Int32) (o3_2 : Option Nat) (o3_3 : Option Nat) (o3_4 : Option Nat) (i3_6 : Int32), G y1 = .inr (.inl (11, [.int i3_0, .int i3_1, va_rf o3_2, va_rf o3_3, va_rf o3_4, .ref (y1 + 1), .int i3_6])) ∧ ((i3_6.toInt ≤ 0 → K (.inl (some (.int 1))) (N) G (0) (0)) ∧ (0 < i3_6.toInt → K (.inl (some (.int 2))) (N) G (0) (0)))) ∧ (p3.toInt < i1_1.toInt → 9 < N ∧ ∃ (i5_5 : Int32) (i5_6 : Int32) (i5_7 : Int32), G 9 = .inr (.inl (2, [.ref 10, .ref 17, .ref 18, .ref 20, .ref 22, .int i5_5, .int i5_6, .int i5_7])) ∧ ((p3.toInt < 0 → False) ∧ (0 ≤ p3.toInt → ((p3.toInt < i1_1.toInt → r1_0 < N ∧ ∃ (n8 : Nat) (f8 : Nat → Option Nat), G r1_0 = .inl (4, (n8, .inr (.inr (.inr (.inr f8))))) ∧ 0 ≤ p3.toInt ∧ p3.toInt < (n8 : Nat) ∧ ∃ x10, f8 p3.toNatClampNeg = some x10 ∧ 5 ≤ x10 ∧ x10 < N ∧ ∃ (r11_0 : Nat) (r11_1 : Nat) (r11_2 : Nat), G x10 = .inr (.inl (8, [.ref r11_0, .ref r11_1, .ref r11_2])) ∧ 5 ≤ y1 ∧ y1 < N ∧ ∃ (i12_0 : Int32) (i12_1 : Int32) (o12_2 : Option Nat) (o12_3 : Option Nat) (o12_4 : Option Nat) (i12_6 : Int32), G y1 = .inr (.inl (11, [.int i12_0, .int i12_1, va_rf o12_2, va_rf o12_3, va_rf o12_4, .ref (y1 + 1), .int i12_6])) ∧ ((o12_2 = none → 10 < N ∧ ∃ (i14_3 : Int32) (o14_4 : Option Nat), G 10 = .inr (.inl (3, [.ref 11, .ref 13, .ref 16, .int i14_3, va_rf o14_4])) ∧ cT (81) sM_72 0 [(0, .ref 10), (1, .ref x10), (2, .null)] [] (N) G (fun r15 N15 G15 kc15 ks15 => ∃ v15 : Int32, r15 = .inl (some (.int v15)) ∧ cT (82) sM_71 31 [(0, .ref 9), (1, .ref y1), (2, .ref 8), (3, .int p3), (4, .int v15)] [] (N15) G15 (fun r N1 G1 kc1 ks1 => K r N1 G1 (kc15 + kc1) (ks15 + ks1)))) ∧ (∀ x13, o12_2 = some x13 → 10 < N ∧ ∃ (i16_3 : Int32) (o16_4 : Option Nat), G 10 = .inr (.inl (3, [.ref 11, .ref 13, .ref 16, .int i16_3, va_rf o16_4])) ∧ cT (81) sM_72 0 [(0, .ref 10), (1, .ref x10), (2, .ref x13)] [] (N) G (fun r17 N17 G17 kc17 ks17 => ∃ v17 : Int32, r17 = .inl (some (.int v17)) ∧ cT (82) sM_71 31 [(0, .ref 9), (1, .ref y1), (2, .ref 8), (3, .int p3), (4, .int v17)] [] (N17) G17 (fun r N1 G1 kc1 ks1 => K r N1 G1 (kc17 + kc1) (ks17 + ks1)))))) ∧ (i1_1.toInt ≤ p3.toInt → False))))))) : cT (82) sM_71 2 [(0, .ref 9), (1, .ref y1), (2, .ref 8), (3, .int p3)] [] N G K := by
  intro d dc ds P hP
  refine w_mv (pc1 := 3) (st1 := [.int p3]) rfl rfl rfl ?_
  refine w_mv (pc1 := 4) (st1 := [.ref 8, .int p3]) rfl rfl rfl ?_
  obtain ⟨b1b, r1_0, i1_1, i1_2, g1, hh⟩ := hh
  refine w_call (M' := sM_165) (vals := [.ref 8]) (rest := [.int p3]) (lv' := [(0, .ref 8)]) rfl rfl rfl rfl rfl rfl (cH_rcv (by omega) (by omega) g1) rfl rfl rfl ?_
  refine w_mv (pc1 := 1) (st1 := [.ref 8]) rfl rfl rfl ?_
  refine cw_gf (v := .int i1_1) (pc1 := 4) rfl (by omega) (by omega) g1 rfl rfl ?_
  refine w_iret (pc1 := 7) rfl rfl rfl rfl ?_
  by_cases h2 : i1_1.toInt ≤ p3.toInt
  ·
    replace hh := hh.1 h2
    refine w_ige_T (pc1 := 87) rfl rfl (show i1_1.toInt ≤ p3.toInt from h2) ?_
    refine w_mv (pc1 := 88) (st1 := [.ref y1]) rfl rfl rfl ?_
    obtain ⟨b3a, b3b, i3_0, i3_1, o3_2, o3_3, o3_4, i3_6, g3, hh⟩ := hh
    refine w_call (M' := sM_91) (vals := [.ref y1]) (rest := []) (lv' := [(0, .ref y1)]) rfl rfl rfl rfl rfl rfl (cH_rcv (by omega) (by omega) g3) rfl rfl rfl ?_
    refine w_mv (pc1 := 1) (st1 := [.ref y1]) rfl rfl rfl ?_
    refine cw_gf (v := .int i3_6) (pc1 := 4) rfl (by omega) (by omega) g3 rfl rfl ?_
    by_cases h4 : i3_6.toInt ≤ 0
    ·
      replace hh := hh.1 h4
      refine w_zle_T (pc1 := 11) rfl rfl (show i3_6.toInt ≤ 0 from h4) ?_
      refine w_mv (pc1 := 12) (st1 := [.int 0]) rfl rfl rfl ?_
      refine w_iret (pc1 := 91) rfl rfl rfl rfl ?_
      refine w_mv (pc1 := 98) (st1 := []) rfl rfl rfl ?_
      refine w_mv (pc1 := 99) (st1 := [.int 1]) rfl rfl rfl ?_
      refine sx_wp.stop rfl rfl rfl ?_
      exact c_acc (hP _ _ _ _ _ hh) (by omega) (by omega)
    ·
      replace hh := hh.2 (Int.not_le.mp h4)
      refine w_zle_F (pc1 := 7) rfl (by decide) rfl (show 0 < i3_6.toInt from (Int.not_le.mp h4)) ?_
      refine w_mv (pc1 := 8) (st1 := [.int 1]) rfl rfl rfl ?_
      refine w_mv (pc1 := 12) (st1 := [.int 1]) rfl rfl rfl ?_
      refine w_iret (pc1 := 91) rfl rfl rfl rfl ?_
      refine w_mv (pc1 := 94) (st1 := []) rfl rfl rfl ?_
      refine w_mv (pc1 := 95) (st1 := [.int 2]) rfl rfl rfl ?_
      refine w_mv (pc1 := 99) (st1 := [.int 2]) rfl rfl rfl ?_
      refine sx_wp.stop rfl rfl rfl ?_
      exact c_acc (hP _ _ _ _ _ hh) (by omega) (by omega)
  ·
    replace hh := hh.2 (Int.not_le.mp h2)
    refine w_ige_F (pc1 := 10) rfl (by decide) rfl (show p3.toInt < i1_1.toInt from (Int.not_le.mp h2)) ?_
    refine w_mv (pc1 := 11) (st1 := [.ref 9]) rfl rfl rfl ?_
    obtain ⟨b5b, i5_5, i5_6, i5_7, g5, hh⟩ := hh
    refine cw_gf (v := .ref 10) (pc1 := 14) rfl (by omega) (by omega) g5 rfl rfl ?_
    refine w_mv (pc1 := 15) (st1 := [.ref 8, .ref 10]) rfl rfl rfl ?_
    refine w_mv (pc1 := 16) (st1 := [.int p3, .ref 8, .ref 10]) rfl rfl rfl ?_
    refine w_call (M' := sM_179) (vals := [.ref 8, .int p3]) (rest := [.ref 10]) (lv' := [(0, .ref 8), (1, .int p3)]) rfl rfl rfl rfl rfl rfl (cH_rcv (by omega) (by omega) g1) rfl rfl rfl ?_
    refine w_mv (pc1 := 1) (st1 := [.int p3]) rfl rfl rfl ?_
    refine w_mv (pc1 := 2) (st1 := [.ref 8, .int p3]) rfl rfl rfl ?_
    refine cw_gf (v := .int i1_1) (pc1 := 5) rfl (by omega) (by omega) g1 rfl rfl ?_
    refine w_call (M' := sM_176) (vals := [.int p3, .int i1_1]) (rest := []) (lv' := [(0, .int p3), (1, .int i1_1)]) rfl rfl rfl rfl rfl rfl rfl rfl rfl rfl ?_
    refine w_mv (pc1 := 1) (st1 := [.int p3]) rfl rfl rfl ?_
    refine w_mv (pc1 := 2) (st1 := [.int i1_1, .int p3]) rfl rfl rfl ?_
    refine w_mv (pc1 := 3) (st1 := [.null, .int i1_1, .int p3]) rfl rfl rfl ?_
    refine w_call (M' := sM_177) (vals := [.int p3, .int i1_1, .null]) (rest := []) (lv' := [(0, .int p3), (1, .int i1_1), (2, .null)]) rfl rfl rfl rfl rfl rfl rfl rfl rfl rfl ?_
    refine w_mv (pc1 := 1) (st1 := [.int p3]) rfl rfl rfl ?_
    by_cases h6 : p3.toInt < 0
    ·
      replace hh := hh.1 h6
      refine w_zlt_T (pc1 := 9) rfl rfl (show p3.toInt < 0 from h6) ?_
      refine w_mv (pc1 := 10) (st1 := [.null]) rfl rfl rfl ?_
      refine w_mv (pc1 := 11) (st1 := [.int p3, .null]) rfl rfl rfl ?_
      refine w_mv (pc1 := 12) (st1 := [.int i1_1, .int p3, .null]) rfl rfl rfl ?_
      exact hh.elim
    ·
      replace hh := hh.2 (Int.not_lt.mp h6)
      refine w_zlt_F (pc1 := 4) rfl (by decide) rfl (show 0 ≤ p3.toInt from (Int.not_lt.mp h6)) ?_
      refine w_mv (pc1 := 5) (st1 := [.int p3]) rfl rfl rfl ?_
      refine w_mv (pc1 := 6) (st1 := [.int i1_1, .int p3]) rfl rfl rfl ?_
      by_cases h7 : p3.toInt < i1_1.toInt
      ·
        replace hh := hh.1 h7
        refine w_ilt_T (pc1 := 16) rfl rfl (show p3.toInt < i1_1.toInt from h7) ?_
        refine w_mv (pc1 := 17) (st1 := [.int p3]) rfl rfl rfl ?_
        refine w_iret (pc1 := 6) rfl rfl rfl rfl ?_
        refine w_iret (pc1 := 8) rfl rfl rfl rfl ?_
        refine w_mv (pc1 := 9) (st1 := []) rfl rfl rfl ?_
        refine w_mv (pc1 := 10) (st1 := [.ref 8]) rfl rfl rfl ?_
        refine w_mv (pc1 := 11) (st1 := [.int p3, .ref 8]) rfl rfl rfl ?_
        refine w_call (M' := sM_180) (vals := [.ref 8, .int p3]) (rest := []) (lv' := [(0, .ref 8), (1, .int p3)]) rfl rfl rfl rfl rfl rfl (cH_rcv (by omega) (by omega) g1) rfl rfl rfl ?_
        refine w_mv (pc1 := 1) (st1 := [.ref 8]) rfl rfl rfl ?_
        refine cw_gf (v := .ref r1_0) (pc1 := 4) rfl (by omega) (by omega) g1 rfl rfl ?_
        refine w_mv (pc1 := 5) (st1 := [.int p3, .ref r1_0]) rfl rfl rfl ?_
        obtain ⟨b8b, n8, f8, g8, hh⟩ := hh
        obtain ⟨q9a, q9b, hh⟩ := hh
        refine cw_ald (pc1 := 6) rfl (by omega) g8 rfl q9a q9b rfl ?_
        obtain ⟨x10, e10, hh⟩ := hh
        rw [e10]
        refine w_aret (pc1 := 14) rfl rfl rfl rfl ?_
        refine w_aret (pc1 := 19) rfl rfl rfl rfl ?_
        obtain ⟨b11a, b11b, r11_0, r11_1, r11_2, g11, hh⟩ := hh
        refine cw_cast (pc1 := 22) rfl (by omega) (by omega) g11 rfl ?_
        refine w_mv (pc1 := 23) (st1 := [.ref y1, .ref x10, .ref 10]) rfl rfl rfl ?_
        obtain ⟨b12a, b12b, i12_0, i12_1, o12_2, o12_3, o12_4, i12_6, g12, hh⟩ := hh
        refine cw_gf (v := va_rf o12_2) (pc1 := 26) rfl (by omega) (by omega) g12 rfl rfl ?_
        cases o12_2 with
        | none =>
          replace hh := hh.1 rfl
          obtain ⟨b14b, i14_3, o14_4, g14, hh⟩ := hh
          refine w_call (M' := sM_72) (vals := [.ref 10, .ref x10, .null]) (rest := []) (lv' := [(0, .ref 10), (1, .ref x10), (2, .null)]) rfl rfl rfl rfl rfl rfl (cH_rcv (by omega) (by omega) g14) rfl rfl rfl ?_
          refine hh _ _ _ _ (fun r15 N15 G15 kc15 ks15 hh => ?_)
          obtain ⟨v15, er15, hh⟩ := hh
          subst er15
          refine w_ki (pc1 := 29) rfl ?_
          refine w_mv (pc1 := 31) (lv1 := [(4, .int v15), (0, .ref 9), (1, .ref y1), (2, .ref 8), (3, .int p3)]) (st1 := []) rfl rfl rfl ?_
          refine w_wk (l1 := [(0, .ref 9), (1, .ref y1), (2, .ref 8), (3, .int p3), (4, .int v15)]) rfl ⟨rfl, rfl, rfl, rfl, rfl, trivial⟩ ?_
          refine hh d _ _ P (fun r N1 G1 kc1 ks1 q => ?_)
          exact c_acc (hP r N1 G1 _ _ q) (by omega) (by omega)
        | some x13 =>
          replace hh := hh.2 x13 rfl
          obtain ⟨b16b, i16_3, o16_4, g16, hh⟩ := hh
          refine w_call (M' := sM_72) (vals := [.ref 10, .ref x10, .ref x13]) (rest := []) (lv' := [(0, .ref 10), (1, .ref x10), (2, .ref x13)]) rfl rfl rfl rfl rfl rfl (cH_rcv (by omega) (by omega) g16) rfl rfl rfl ?_
          refine hh _ _ _ _ (fun r17 N17 G17 kc17 ks17 hh => ?_)
          obtain ⟨v17, er17, hh⟩ := hh
          subst er17
          refine w_ki (pc1 := 29) rfl ?_
          refine w_mv (pc1 := 31) (lv1 := [(4, .int v17), (0, .ref 9), (1, .ref y1), (2, .ref 8), (3, .int p3)]) (st1 := []) rfl rfl rfl ?_
          refine w_wk (l1 := [(0, .ref 9), (1, .ref y1), (2, .ref 8), (3, .int p3), (4, .int v17)]) rfl ⟨rfl, rfl, rfl, rfl, rfl, trivial⟩ ?_
          refine hh d _ _ P (fun r N1 G1 kc1 ks1 q => ?_)
          exact c_acc (hP r N1 G1 _ _ q) (by omega) (by omega)
      ·
        replace hh := hh.2 (Int.not_lt.mp h7)
        refine w_ilt_F (pc1 := 9) rfl (by decide) rfl (show i1_1.toInt ≤ p3.toInt from (Int.not_lt.mp h7)) ?_
        refine w_mv (pc1 := 10) (st1 := [.null]) rfl rfl rfl ?_
        refine w_mv (pc1 := 11) (st1 := [.int p3, .null]) rfl rfl rfl ?_
        refine w_mv (pc1 := 12) (st1 := [.int i1_1, .int p3, .null]) rfl rfl rfl ?_
        exact hh.elim
set_option maxRecDepth 20000 in
set_option maxHeartbeats 4000000 in
theorem k_71_31 {y1 : Nat} {p3 : Int32} {p4 : Int32} {N : Nat} {G : Nat → sx_C} {K : Option Value ⊕ Nat → Nat → (Nat → sx_C) → Nat → Nat → Prop} (hh : ((p4.toInt ≠ 0 → ((p4.toInt ≠ 3 → ((p4.toInt ≠ 2 → cT (82) sM_71 81 [(0, .ref 9), (1, .ref y1), (2, .ref 8), (3, .int p3)] [] (N) G (fun r N1 G1 kc1 ks1 => K r N1 G1 (kc1) (ks1))) ∧ (p4.toInt = 2 → 9 < N ∧ ∃ (i14_5 : Int32) (i14_6 : Int32) (i14_7 : Int32), G 9 = .inr (.inl (2, [.ref 10, .ref 17, .ref 18, .ref 20, .ref 22, .int i14_5, .int i14_6, .int i14_7])) ∧ 10 < N ∧ ∃ (i15_3 : Int32) (o15_4 : Option Nat), G 10 = .inr (.inl (3, [.ref 11, .ref 13, .ref 16, .int i15_3, va_rf o15_4])) ∧ ((o15_4 = none → 5 ≤ y1 ∧ y1 < N ∧ ∃ (i17_0 : Int32) (i17_1 : Int32) (o17_2 : Option Nat) (o17_3 : Option Nat) (o17_4 : Option Nat) (i17_6 : Int32), G y1 = .inr (.inl (11, [.int i17_0, .int i17_1, va_rf o17_2, va_rf o17_3, va_rf o17_4, .ref (y1 + 1), .int i17_6])) ∧ cT (2) sM_89 0 [(0, .ref y1), (1, .null)] [] (N) G (fun r18 N18 G18 kc18 ks18 => r18 = .inl none ∧ cT (82) sM_71 81 [(0, .ref 9), (1, .ref y1), (2, .ref 8), (3, .int p3)] [] (N18) G18 (fun r N1 G1 kc1 ks1 => K r N1 G1 (kc18 + kc1) (ks18 + ks1)))) ∧ (∀ x16, o15_4 = some x16 → 5 ≤ y1 ∧ y1 < N ∧ ∃ (i19_0 : Int32) (i19_1 : Int32) (o19_2 : Option Nat) (o19_3 : Option Nat) (o19_4 : Option Nat) (i19_6 : Int32), G y1 = .inr (.inl (11, [.int i19_0, .int i19_1, va_rf o19_2, va_rf o19_3, va_rf o19_4, .ref (y1 + 1), .int i19_6])) ∧ cT (2) sM_89 0 [(0, .ref y1), (1, .ref x16)] [] (N) G (fun r20 N20 G20 kc20 ks20 => r20 = .inl none ∧ cT (82) sM_71 81 [(0, .ref 9), (1, .ref y1), (2, .ref 8), (3, .int p3)] [] (N20) G20 (fun r N1 G1 kc1 ks1 => K r N1 G1 (kc20 + kc1) (ks20 + ks1)))))))) ∧ (p4.toInt = 3 → K (.inl (some (.int 3))) (N) G (0) (0)))) ∧ (p4.toInt = 0 → 8 < N ∧ ∃ (r2_0 : Nat) (i2_1 : Int32) (i2_2 : Int32), G 8 = .inr (.inl (13, [.ref r2_0, .int i2_1, .int i2_2])) ∧ ((p3.toInt < 0 → False) ∧ (0 ≤ p3.toInt → ((p3.toInt < i2_1.toInt → r2_0 < N ∧ ∃ (n5 : Nat) (f5 : Nat → Option Nat), G r2_0 = .inl (4, (n5, .inr (.inr (.inr (.inr f5))))) ∧ 0 ≤ p3.toInt ∧ p3.toInt < (n5 : Nat) ∧ ∃ x7, f5 p3.toNatClampNeg = some x7 ∧ 5 ≤ x7 ∧ x7 < N ∧ ∃ (r8_0 : Nat) (r8_1 : Nat) (r8_2 : Nat), G x7 = .inr (.inl (8, [.ref r8_0, .ref r8_1, .ref r8_2])) ∧ 5 ≤ y1 ∧ y1 < N ∧ ∃ (i9_0 : Int32) (i9_1 : Int32) (o9_2 : Option Nat) (o9_3 : Option Nat) (o9_4 : Option Nat) (i9_6 : Int32), G y1 = .inr (.inl (11, [.int i9_0, .int i9_1, va_rf o9_2, va_rf o9_3, va_rf o9_4, .ref (y1 + 1), .int i9_6])) ∧ 9 < N ∧ ∃ (i10_5 : Int32) (i10_6 : Int32) (i10_7 : Int32), G 9 = .inr (.inl (2, [.ref 10, .ref 17, .ref 18, .ref 20, .ref 22, .int i10_5, .int i10_6, .int i10_7])) ∧ cT (62) sM_87 0 [(0, .ref 9), (1, .ref r8_2), (2, .int i9_1)] [] (N) G (fun r11 N11 G11 kc11 ks11 => ∃ v11 : Int32, r11 = .inl (some (.int v11)) ∧ K (.inl (some (.int v11))) (N11) G11 (kc11) (ks11))) ∧ (i2_1.toInt ≤ p3.toInt → False))))))) : cT (82) sM_71 31 [(0, .ref 9), (1, .ref y1), (2, .ref 8), (3, .int p3), (4, .int p4)] [] N G K := by
  intro d dc ds P hP
  refine w_mv (pc1 := 33) (st1 := [.int p4]) rfl rfl rfl ?_
  by_cases h1 : p4.toInt = 0
  ·
    replace hh := hh.2 h1
    refine w_zne_F (pc1 := 36) rfl (by decide) rfl (show p4.toInt = 0 from h1) ?_
    refine w_mv (pc1 := 37) (st1 := [.ref 9]) rfl rfl rfl ?_
    refine w_mv (pc1 := 38) (st1 := [.ref 8, .ref 9]) rfl rfl rfl ?_
    refine w_mv (pc1 := 39) (st1 := [.int p3, .ref 8, .ref 9]) rfl rfl rfl ?_
    obtain ⟨b2b, r2_0, i2_1, i2_2, g2, hh⟩ := hh
    refine w_call (M' := sM_179) (vals := [.ref 8, .int p3]) (rest := [.ref 9]) (lv' := [(0, .ref 8), (1, .int p3)]) rfl rfl rfl rfl rfl rfl (cH_rcv (by omega) (by omega) g2) rfl rfl rfl ?_
    refine w_mv (pc1 := 1) (st1 := [.int p3]) rfl rfl rfl ?_
    refine w_mv (pc1 := 2) (st1 := [.ref 8, .int p3]) rfl rfl rfl ?_
    refine cw_gf (v := .int i2_1) (pc1 := 5) rfl (by omega) (by omega) g2 rfl rfl ?_
    refine w_call (M' := sM_176) (vals := [.int p3, .int i2_1]) (rest := []) (lv' := [(0, .int p3), (1, .int i2_1)]) rfl rfl rfl rfl rfl rfl rfl rfl rfl rfl ?_
    refine w_mv (pc1 := 1) (st1 := [.int p3]) rfl rfl rfl ?_
    refine w_mv (pc1 := 2) (st1 := [.int i2_1, .int p3]) rfl rfl rfl ?_
    refine w_mv (pc1 := 3) (st1 := [.null, .int i2_1, .int p3]) rfl rfl rfl ?_
    refine w_call (M' := sM_177) (vals := [.int p3, .int i2_1, .null]) (rest := []) (lv' := [(0, .int p3), (1, .int i2_1), (2, .null)]) rfl rfl rfl rfl rfl rfl rfl rfl rfl rfl ?_
    refine w_mv (pc1 := 1) (st1 := [.int p3]) rfl rfl rfl ?_
    by_cases h3 : p3.toInt < 0
    ·
      replace hh := hh.1 h3
      refine w_zlt_T (pc1 := 9) rfl rfl (show p3.toInt < 0 from h3) ?_
      refine w_mv (pc1 := 10) (st1 := [.null]) rfl rfl rfl ?_
      refine w_mv (pc1 := 11) (st1 := [.int p3, .null]) rfl rfl rfl ?_
      refine w_mv (pc1 := 12) (st1 := [.int i2_1, .int p3, .null]) rfl rfl rfl ?_
      exact hh.elim
    ·
      replace hh := hh.2 (Int.not_lt.mp h3)
      refine w_zlt_F (pc1 := 4) rfl (by decide) rfl (show 0 ≤ p3.toInt from (Int.not_lt.mp h3)) ?_
      refine w_mv (pc1 := 5) (st1 := [.int p3]) rfl rfl rfl ?_
      refine w_mv (pc1 := 6) (st1 := [.int i2_1, .int p3]) rfl rfl rfl ?_
      by_cases h4 : p3.toInt < i2_1.toInt
      ·
        replace hh := hh.1 h4
        refine w_ilt_T (pc1 := 16) rfl rfl (show p3.toInt < i2_1.toInt from h4) ?_
        refine w_mv (pc1 := 17) (st1 := [.int p3]) rfl rfl rfl ?_
        refine w_iret (pc1 := 6) rfl rfl rfl rfl ?_
        refine w_iret (pc1 := 8) rfl rfl rfl rfl ?_
        refine w_mv (pc1 := 9) (st1 := []) rfl rfl rfl ?_
        refine w_mv (pc1 := 10) (st1 := [.ref 8]) rfl rfl rfl ?_
        refine w_mv (pc1 := 11) (st1 := [.int p3, .ref 8]) rfl rfl rfl ?_
        refine w_call (M' := sM_180) (vals := [.ref 8, .int p3]) (rest := []) (lv' := [(0, .ref 8), (1, .int p3)]) rfl rfl rfl rfl rfl rfl (cH_rcv (by omega) (by omega) g2) rfl rfl rfl ?_
        refine w_mv (pc1 := 1) (st1 := [.ref 8]) rfl rfl rfl ?_
        refine cw_gf (v := .ref r2_0) (pc1 := 4) rfl (by omega) (by omega) g2 rfl rfl ?_
        refine w_mv (pc1 := 5) (st1 := [.int p3, .ref r2_0]) rfl rfl rfl ?_
        obtain ⟨b5b, n5, f5, g5, hh⟩ := hh
        obtain ⟨q6a, q6b, hh⟩ := hh
        refine cw_ald (pc1 := 6) rfl (by omega) g5 rfl q6a q6b rfl ?_
        obtain ⟨x7, e7, hh⟩ := hh
        rw [e7]
        refine w_aret (pc1 := 14) rfl rfl rfl rfl ?_
        refine w_aret (pc1 := 42) rfl rfl rfl rfl ?_
        obtain ⟨b8a, b8b, r8_0, r8_1, r8_2, g8, hh⟩ := hh
        refine cw_cast (pc1 := 45) rfl (by omega) (by omega) g8 rfl ?_
        refine cw_gf (v := .ref r8_2) (pc1 := 48) rfl (by omega) (by omega) g8 rfl rfl ?_
        refine w_mv (pc1 := 49) (st1 := [.ref y1, .ref r8_2, .ref 9]) rfl rfl rfl ?_
        obtain ⟨b9a, b9b, i9_0, i9_1, o9_2, o9_3, o9_4, i9_6, g9, hh⟩ := hh
        refine cw_gf (v := .int i9_1) (pc1 := 52) rfl (by omega) (by omega) g9 rfl rfl ?_
        obtain ⟨b10b, i10_5, i10_6, i10_7, g10, hh⟩ := hh
        refine w_call (M' := sM_87) (vals := [.ref 9, .ref r8_2, .int i9_1]) (rest := []) (lv' := [(0, .ref 9), (1, .ref r8_2), (2, .int i9_1)]) rfl rfl rfl rfl rfl rfl (cH_rcv (by omega) (by omega) g10) rfl rfl rfl ?_
        refine hh _ _ _ _ (fun r11 N11 G11 kc11 ks11 hh => ?_)
        obtain ⟨v11, er11, hh⟩ := hh
        subst er11
        refine w_ki (pc1 := 55) rfl ?_
        refine sx_wp.stop rfl rfl rfl ?_
        exact c_acc (hP _ _ _ _ _ hh) (by omega) (by omega)
      ·
        replace hh := hh.2 (Int.not_lt.mp h4)
        refine w_ilt_F (pc1 := 9) rfl (by decide) rfl (show i2_1.toInt ≤ p3.toInt from (Int.not_lt.mp h4)) ?_
        refine w_mv (pc1 := 10) (st1 := [.null]) rfl rfl rfl ?_
        refine w_mv (pc1 := 11) (st1 := [.int p3, .null]) rfl rfl rfl ?_
        refine w_mv (pc1 := 12) (st1 := [.int i2_1, .int p3, .null]) rfl rfl rfl ?_
        exact hh.elim
  ·
    replace hh := hh.1 h1
    refine w_zne_T (pc1 := 56) rfl rfl (show p4.toInt ≠ 0 from h1) ?_
    refine w_mv (pc1 := 58) (st1 := [.int p4]) rfl rfl rfl ?_
    refine w_mv (pc1 := 59) (st1 := [.int 3, .int p4]) rfl rfl rfl ?_
    by_cases h12 : p4.toInt = 3
    ·
      replace hh := hh.2 h12
      refine w_ine_F (pc1 := 62) rfl (by decide) rfl (show p4.toInt = 3 from h12) ?_
      refine w_mv (pc1 := 63) (st1 := [.int 3]) rfl rfl rfl ?_
      refine sx_wp.stop rfl rfl rfl ?_
      exact c_acc (hP _ _ _ _ _ hh) (by omega) (by omega)
    ·
      replace hh := hh.1 h12
      refine w_ine_T (pc1 := 64) rfl rfl (show p4.toInt ≠ 3 from h12) ?_
      refine w_mv (pc1 := 66) (st1 := [.int p4]) rfl rfl rfl ?_
      refine w_mv (pc1 := 67) (st1 := [.int 2, .int p4]) rfl rfl rfl ?_
      by_cases h13 : p4.toInt = 2
      ·
        replace hh := hh.2 h13
        refine w_ine_F (pc1 := 70) rfl (by decide) rfl (show p4.toInt = 2 from h13) ?_
        refine w_mv (pc1 := 71) (st1 := [.ref y1]) rfl rfl rfl ?_
        refine w_mv (pc1 := 72) (st1 := [.ref 9, .ref y1]) rfl rfl rfl ?_
        obtain ⟨b14b, i14_5, i14_6, i14_7, g14, hh⟩ := hh
        refine cw_gf (v := .ref 10) (pc1 := 75) rfl (by omega) (by omega) g14 rfl rfl ?_
        obtain ⟨b15b, i15_3, o15_4, g15, hh⟩ := hh
        refine w_call (M' := sM_88) (vals := [.ref 10]) (rest := [.ref y1]) (lv' := [(0, .ref 10)]) rfl rfl rfl rfl rfl rfl (cH_rcv (by omega) (by omega) g15) rfl rfl rfl ?_
        refine w_mv (pc1 := 1) (st1 := [.ref 10]) rfl rfl rfl ?_
        refine cw_gf (v := va_rf o15_4) (pc1 := 4) rfl (by omega) (by omega) g15 rfl rfl ?_
        cases o15_4 with
        | none =>
          replace hh := hh.1 rfl
          refine w_nret (pc1 := 78) rfl rfl rfl rfl ?_
          obtain ⟨b17a, b17b, i17_0, i17_1, o17_2, o17_3, o17_4, i17_6, g17, hh⟩ := hh
          refine w_call (M' := sM_89) (vals := [.ref y1, .null]) (rest := []) (lv' := [(0, .ref y1), (1, .null)]) rfl rfl rfl rfl rfl rfl (cH_rcv (by omega) (by omega) g17) rfl rfl rfl ?_
          refine hh _ _ _ _ (fun r18 N18 G18 kc18 ks18 hh => ?_)
          obtain ⟨er18, hh⟩ := hh
          subst er18
          refine w_kv (pc1 := 81) rfl ?_
          refine w_wk (l1 := [(0, .ref 9), (1, .ref y1), (2, .ref 8), (3, .int p3)]) rfl ⟨rfl, rfl, rfl, rfl, trivial⟩ ?_
          refine hh d _ _ P (fun r N1 G1 kc1 ks1 q => ?_)
          exact c_acc (hP r N1 G1 _ _ q) (by omega) (by omega)
        | some x16 =>
          replace hh := hh.2 x16 rfl
          refine w_aret (pc1 := 78) rfl rfl rfl rfl ?_
          obtain ⟨b19a, b19b, i19_0, i19_1, o19_2, o19_3, o19_4, i19_6, g19, hh⟩ := hh
          refine w_call (M' := sM_89) (vals := [.ref y1, .ref x16]) (rest := []) (lv' := [(0, .ref y1), (1, .ref x16)]) rfl rfl rfl rfl rfl rfl (cH_rcv (by omega) (by omega) g19) rfl rfl rfl ?_
          refine hh _ _ _ _ (fun r20 N20 G20 kc20 ks20 hh => ?_)
          obtain ⟨er20, hh⟩ := hh
          subst er20
          refine w_kv (pc1 := 81) rfl ?_
          refine w_wk (l1 := [(0, .ref 9), (1, .ref y1), (2, .ref 8), (3, .int p3)]) rfl ⟨rfl, rfl, rfl, rfl, trivial⟩ ?_
          refine hh d _ _ P (fun r N1 G1 kc1 ks1 q => ?_)
          exact c_acc (hP r N1 G1 _ _ q) (by omega) (by omega)
      ·
        replace hh := hh.1 h13
        refine w_ine_T (pc1 := 81) rfl rfl (show p4.toInt ≠ 2 from h13) ?_
        refine w_wk (l1 := [(0, .ref 9), (1, .ref y1), (2, .ref 8), (3, .int p3)]) rfl ⟨rfl, rfl, rfl, rfl, trivial⟩ ?_
        refine hh d _ _ P (fun r N1 G1 kc1 ks1 q => ?_)
        exact c_acc (hP r N1 G1 _ _ q) (by omega) (by omega)
set_option maxRecDepth 20000 in
set_option maxHeartbeats 4000000 in
theorem k_71_81 {y1 : Nat} {p3 : Int32} {N : Nat} {G : Nat → sx_C} {K : Option Value ⊕ Nat → Nat → (Nat → sx_C) → Nat → Nat → Prop} (hh : cT (82) sM_71 2 [(0, .ref 9), (1, .ref y1), (2, .ref 8), (3, .int (p3 + 1))] [] (N) G (fun r N1 G1 kc1 ks1 => K r N1 G1 (kc1) (ks1))) : cT (82) sM_71 81 [(0, .ref 9), (1, .ref y1), (2, .ref 8), (3, .int p3)] [] N G K := by
  intro d dc ds P hP
  refine w_mv (pc1 := 84) (lv1 := [(3, .int (p3 + 1)), (0, .ref 9), (1, .ref y1), (2, .ref 8)]) (st1 := []) rfl rfl rfl ?_
  refine w_mv (pc1 := 2) (st1 := []) rfl rfl rfl ?_
  refine w_wk (l1 := [(0, .ref 9), (1, .ref y1), (2, .ref 8), (3, .int (p3 + 1))]) rfl ⟨rfl, rfl, rfl, rfl, trivial⟩ ?_
  refine hh d _ _ P (fun r N1 G1 kc1 ks1 q => ?_)
  exact c_acc (hP r N1 G1 _ _ q) (by omega) (by omega)
set_option maxRecDepth 20000 in
set_option maxHeartbeats 4000000 in
theorem k_72_0 {y1 : Nat} {y2 : Nat} {N : Nat} {G : Nat → sx_C} {K : Option Value ⊕ Nat → Nat → (Nat → sx_C) → Nat → Nat → Prop} (hh : 10 < N ∧ ∃ (i1_3 : Int32) (o1_4 : Option Nat), G 10 = .inr (.inl (3, [.ref 11, .ref 13, .ref 16, .int i1_3, va_rf o1_4])) ∧ 5 ≤ y1 ∧ y1 < N ∧ ∃ (r4_0 : Nat) (r4_1 : Nat) (r4_2 : Nat), (va_up G 10 (.inr (.inl (3, [.ref 11, .ref 13, .ref 16, .int 0, .null])))) y1 = .inr (.inl (8, [.ref r4_0, .ref r4_1, .ref r4_2])) ∧ cT (80) sM_73 0 [(0, .ref 10), (1, .ref r4_0), (2, .ref y2)] [] (N) (va_up G 10 (.inr (.inl (3, [.ref 11, .ref 13, .ref 16, .int 0, .null])))) (fun r5 N5 G5 kc5 ks5 => ∃ v5 : Int32, r5 = .inl (some (.int v5)) ∧ cT (81) sM_72 17 [(0, .ref 10), (1, .ref y1), (2, .ref y2), (3, .int v5), (4, .int 0)] [] (N5) G5 (fun r N1 G1 kc1 ks1 => K r N1 G1 (kc5 + kc1) (ks5 + ks1)))) : cT (81) sM_72 0 [(0, .ref 10), (1, .ref y1), (2, .ref y2)] [] N G K := by
  intro d dc ds P hP
  refine w_mv (pc1 := 1) (st1 := [.ref 10]) rfl rfl rfl ?_
  obtain ⟨b1b, i1_3, o1_4, g1, hh⟩ := hh
  refine w_call (M' := sM_54) (vals := [.ref 10]) (rest := []) (lv' := [(0, .ref 10)]) rfl rfl rfl rfl rfl rfl (cH_rcv (by omega) (by omega) g1) rfl rfl rfl ?_
  refine w_mv (pc1 := 1) (st1 := [.ref 10]) rfl rfl rfl ?_
  refine w_mv (pc1 := 2) (st1 := [.int 0, .ref 10]) rfl rfl rfl ?_
  refine cw_pf (c1 := .inr (.inl (3, [.ref 11, .ref 13, .ref 16, .int 0, va_rf o1_4]))) (pc1 := 5) rfl (by omega) (by omega) g1 rfl rfl rfl rfl ?_
  have g2 : (va_up G 10 (.inr (.inl (3, [.ref 11, .ref 13, .ref 16, .int 0, va_rf o1_4])))) 10 = .inr (.inl (3, [.ref 11, .ref 13, .ref 16, .int 0, va_rf o1_4])) := up_eq
  refine w_mv (pc1 := 6) (st1 := [.ref 10]) rfl rfl rfl ?_
  refine w_mv (pc1 := 7) (st1 := [.null, .ref 10]) rfl rfl rfl ?_
  refine cw_pf (c1 := .inr (.inl (3, [.ref 11, .ref 13, .ref 16, .int 0, .null]))) (pc1 := 10) rfl (by omega) (by omega) g2 rfl rfl rfl rfl ?_
  rw [va_uu]
  have g3 : (va_up G 10 (.inr (.inl (3, [.ref 11, .ref 13, .ref 16, .int 0, .null])))) 10 = .inr (.inl (3, [.ref 11, .ref 13, .ref 16, .int 0, .null])) := up_eq
  refine w_vret (pc1 := 4) rfl rfl rfl ?_
  refine w_mv (pc1 := 5) (st1 := [.ref 10]) rfl rfl rfl ?_
  refine w_mv (pc1 := 6) (st1 := [.ref y1, .ref 10]) rfl rfl rfl ?_
  obtain ⟨b4a, b4b, r4_0, r4_1, r4_2, g4, hh⟩ := hh
  refine cw_gf (v := .ref r4_0) (pc1 := 9) rfl (by omega) (by omega) g4 rfl rfl ?_
  refine w_mv (pc1 := 10) (st1 := [.ref y2, .ref r4_0, .ref 10]) rfl rfl rfl ?_
  refine w_call (M' := sM_73) (vals := [.ref 10, .ref r4_0, .ref y2]) (rest := []) (lv' := [(0, .ref 10), (1, .ref r4_0), (2, .ref y2)]) rfl rfl rfl rfl rfl rfl (cH_rcv (by omega) (by omega) g3) rfl rfl rfl ?_
  refine hh _ _ _ _ (fun r5 N5 G5 kc5 ks5 hh => ?_)
  obtain ⟨v5, er5, hh⟩ := hh
  subst er5
  refine w_ki (pc1 := 13) rfl ?_
  refine w_mv (pc1 := 14) (lv1 := [(3, .int v5), (0, .ref 10), (1, .ref y1), (2, .ref y2)]) (st1 := []) rfl rfl rfl ?_
  refine w_mv (pc1 := 15) (st1 := [.int 0]) rfl rfl rfl ?_
  refine w_mv (pc1 := 17) (lv1 := [(4, .int 0), (3, .int v5), (0, .ref 10), (1, .ref y1), (2, .ref y2)]) (st1 := []) rfl rfl rfl ?_
  refine w_wk (l1 := [(0, .ref 10), (1, .ref y1), (2, .ref y2), (3, .int v5), (4, .int 0)]) rfl ⟨rfl, rfl, rfl, rfl, rfl, trivial⟩ ?_
  refine hh d _ _ P (fun r N1 G1 kc1 ks1 q => ?_)
  exact c_acc (hP r N1 G1 _ _ q) (by omega) (by omega)
set_option maxRecDepth 20000 in
set_option maxHeartbeats 4000000 in
theorem k_72_17 {y1 : Nat} {y2 : Nat} {p3 : Int32} {p4 : Int32} {N : Nat} {G : Nat → sx_C} {K : Option Value ⊕ Nat → Nat → (Nat → sx_C) → Nat → Nat → Prop} (hh : 5 ≤ y1 ∧ y1 < N ∧ ∃ (r1_0 : Nat) (r1_1 : Nat) (r1_2 : Nat), G y1 = .inr (.inl (8, [.ref r1_0, .ref r1_1, .ref r1_2])) ∧ 5 ≤ r1_1 ∧ r1_1 < N ∧ ∃ (r2_0 : Nat) (i2_1 : Int32) (i2_2 : Int32), G r1_1 = .inr (.inl (13, [.ref r2_0, .int i2_1, .int i2_2])) ∧ ((i2_1.toInt ≤ p4.toInt → K (.inl (some (.int p3))) (N) G (0) (0)) ∧ (p4.toInt < i2_1.toInt → ((p3.toInt ≠ 0 → K (.inl (some (.int p3))) (N) G (0) (0)) ∧ (p3.toInt = 0 → ((p4.toInt < 0 → False) ∧ (0 ≤ p4.toInt → ((p4.toInt < i2_1.toInt → r2_0 < N ∧ ∃ (n7 : Nat) (f7 : Nat → Option Nat), G r2_0 = .inl (4, (n7, .inr (.inr (.inr (.inr f7))))) ∧ 0 ≤ p4.toInt ∧ p4.toInt < (n7 : Nat) ∧ ∃ x9, f7 p4.toNatClampNeg = some x9 ∧ 5 ≤ x9 ∧ x9 < N ∧ ∃ (i10_0 : Int32) (i10_1 : Int32) (r10_2 : Nat) (o10_3 : Option Nat) (o10_4 : Option Nat), G x9 = .inr (.inl (9, [.int i10_0, .int i10_1, .ref r10_2, va_rf o10_3, va_rf o10_4])) ∧ 10 < N ∧ ∃ (i11_3 : Int32) (o11_4 : Option Nat), G 10 = .inr (.inl (3, [.ref 11, .ref 13, .ref 16, .int i11_3, va_rf o11_4])) ∧ cT (61) sM_82 0 [(0, .ref 10), (1, .ref x9)] [] (N) G (fun r12 N12 G12 kc12 ks12 => ∃ v12 : Int32, r12 = .inl (some (.int v12)) ∧ cT (81) sM_72 17 [(0, .ref 10), (1, .ref y1), (2, .ref y2), (3, .int v12), (4, .int (p4 + 1))] [] (N12) G12 (fun r N1 G1 kc1 ks1 => K r N1 G1 (kc12 + kc1) (ks12 + ks1)))) ∧ (i2_1.toInt ≤ p4.toInt → False))))))))) : cT (81) sM_72 17 [(0, .ref 10), (1, .ref y1), (2, .ref y2), (3, .int p3), (4, .int p4)] [] N G K := by
  intro d dc ds P hP
  refine w_mv (pc1 := 19) (st1 := [.int p4]) rfl rfl rfl ?_
  refine w_mv (pc1 := 20) (st1 := [.ref y1, .int p4]) rfl rfl rfl ?_
  obtain ⟨b1a, b1b, r1_0, r1_1, r1_2, g1, hh⟩ := hh
  refine cw_gf (v := .ref r1_1) (pc1 := 23) rfl (by omega) (by omega) g1 rfl rfl ?_
  obtain ⟨b2a, b2b, r2_0, i2_1, i2_2, g2, hh⟩ := hh
  refine w_call (M' := sM_165) (vals := [.ref r1_1]) (rest := [.int p4]) (lv' := [(0, .ref r1_1)]) rfl rfl rfl rfl rfl rfl (cH_rcv (by omega) (by omega) g2) rfl rfl rfl ?_
  refine w_mv (pc1 := 1) (st1 := [.ref r1_1]) rfl rfl rfl ?_
  refine cw_gf (v := .int i2_1) (pc1 := 4) rfl (by omega) (by omega) g2 rfl rfl ?_
  refine w_iret (pc1 := 26) rfl rfl rfl rfl ?_
  by_cases h3 : i2_1.toInt ≤ p4.toInt
  ·
    replace hh := hh.1 h3
    refine w_ige_T (pc1 := 56) rfl rfl (show i2_1.toInt ≤ p4.toInt from h3) ?_
    refine w_mv (pc1 := 57) (st1 := [.int p3]) rfl rfl rfl ?_
    refine sx_wp.stop rfl rfl rfl ?_
    exact c_acc (hP _ _ _ _ _ hh) (by omega) (by omega)
  ·
    replace hh := hh.2 (Int.not_le.mp h3)
    refine w_ige_F (pc1 := 29) rfl (by decide) rfl (show p4.toInt < i2_1.toInt from (Int.not_le.mp h3)) ?_
    refine w_mv (pc1 := 30) (st1 := [.int p3]) rfl rfl rfl ?_
    by_cases h4 : p3.toInt = 0
    ·
      replace hh := hh.2 h4
      refine w_zne_F (pc1 := 33) rfl (by decide) rfl (show p3.toInt = 0 from h4) ?_
      refine w_mv (pc1 := 34) (st1 := [.ref 10]) rfl rfl rfl ?_
      refine w_mv (pc1 := 35) (st1 := [.ref y1, .ref 10]) rfl rfl rfl ?_
      refine cw_gf (v := .ref r1_1) (pc1 := 38) rfl (by omega) (by omega) g1 rfl rfl ?_
      refine w_mv (pc1 := 40) (st1 := [.int p4, .ref r1_1, .ref 10]) rfl rfl rfl ?_
      refine w_call (M' := sM_179) (vals := [.ref r1_1, .int p4]) (rest := [.ref 10]) (lv' := [(0, .ref r1_1), (1, .int p4)]) rfl rfl rfl rfl rfl rfl (cH_rcv (by omega) (by omega) g2) rfl rfl rfl ?_
      refine w_mv (pc1 := 1) (st1 := [.int p4]) rfl rfl rfl ?_
      refine w_mv (pc1 := 2) (st1 := [.ref r1_1, .int p4]) rfl rfl rfl ?_
      refine cw_gf (v := .int i2_1) (pc1 := 5) rfl (by omega) (by omega) g2 rfl rfl ?_
      refine w_call (M' := sM_176) (vals := [.int p4, .int i2_1]) (rest := []) (lv' := [(0, .int p4), (1, .int i2_1)]) rfl rfl rfl rfl rfl rfl rfl rfl rfl rfl ?_
      refine w_mv (pc1 := 1) (st1 := [.int p4]) rfl rfl rfl ?_
      refine w_mv (pc1 := 2) (st1 := [.int i2_1, .int p4]) rfl rfl rfl ?_
      refine w_mv (pc1 := 3) (st1 := [.null, .int i2_1, .int p4]) rfl rfl rfl ?_
      refine w_call (M' := sM_177) (vals := [.int p4, .int i2_1, .null]) (rest := []) (lv' := [(0, .int p4), (1, .int i2_1), (2, .null)]) rfl rfl rfl rfl rfl rfl rfl rfl rfl rfl ?_
      refine w_mv (pc1 := 1) (st1 := [.int p4]) rfl rfl rfl ?_
      by_cases h5 : p4.toInt < 0
      ·
        replace hh := hh.1 h5
        refine w_zlt_T (pc1 := 9) rfl rfl (show p4.toInt < 0 from h5) ?_
        refine w_mv (pc1 := 10) (st1 := [.null]) rfl rfl rfl ?_
        refine w_mv (pc1 := 11) (st1 := [.int p4, .null]) rfl rfl rfl ?_
        refine w_mv (pc1 := 12) (st1 := [.int i2_1, .int p4, .null]) rfl rfl rfl ?_
        exact hh.elim
      ·
        replace hh := hh.2 (Int.not_lt.mp h5)
        refine w_zlt_F (pc1 := 4) rfl (by decide) rfl (show 0 ≤ p4.toInt from (Int.not_lt.mp h5)) ?_
        refine w_mv (pc1 := 5) (st1 := [.int p4]) rfl rfl rfl ?_
        refine w_mv (pc1 := 6) (st1 := [.int i2_1, .int p4]) rfl rfl rfl ?_
        by_cases h6 : p4.toInt < i2_1.toInt
        ·
          replace hh := hh.1 h6
          refine w_ilt_T (pc1 := 16) rfl rfl (show p4.toInt < i2_1.toInt from h6) ?_
          refine w_mv (pc1 := 17) (st1 := [.int p4]) rfl rfl rfl ?_
          refine w_iret (pc1 := 6) rfl rfl rfl rfl ?_
          refine w_iret (pc1 := 8) rfl rfl rfl rfl ?_
          refine w_mv (pc1 := 9) (st1 := []) rfl rfl rfl ?_
          refine w_mv (pc1 := 10) (st1 := [.ref r1_1]) rfl rfl rfl ?_
          refine w_mv (pc1 := 11) (st1 := [.int p4, .ref r1_1]) rfl rfl rfl ?_
          refine w_call (M' := sM_180) (vals := [.ref r1_1, .int p4]) (rest := []) (lv' := [(0, .ref r1_1), (1, .int p4)]) rfl rfl rfl rfl rfl rfl (cH_rcv (by omega) (by omega) g2) rfl rfl rfl ?_
          refine w_mv (pc1 := 1) (st1 := [.ref r1_1]) rfl rfl rfl ?_
          refine cw_gf (v := .ref r2_0) (pc1 := 4) rfl (by omega) (by omega) g2 rfl rfl ?_
          refine w_mv (pc1 := 5) (st1 := [.int p4, .ref r2_0]) rfl rfl rfl ?_
          obtain ⟨b7b, n7, f7, g7, hh⟩ := hh
          obtain ⟨q8a, q8b, hh⟩ := hh
          refine cw_ald (pc1 := 6) rfl (by omega) g7 rfl q8a q8b rfl ?_
          obtain ⟨x9, e9, hh⟩ := hh
          rw [e9]
          refine w_aret (pc1 := 14) rfl rfl rfl rfl ?_
          refine w_aret (pc1 := 43) rfl rfl rfl rfl ?_
          obtain ⟨b10a, b10b, i10_0, i10_1, r10_2, o10_3, o10_4, g10, hh⟩ := hh
          refine cw_cast (pc1 := 46) rfl (by omega) (by omega) g10 rfl ?_
          obtain ⟨b11b, i11_3, o11_4, g11, hh⟩ := hh
          refine w_call (M' := sM_82) (vals := [.ref 10, .ref x9]) (rest := []) (lv' := [(0, .ref 10), (1, .ref x9)]) rfl rfl rfl rfl rfl rfl (cH_rcv (by omega) (by omega) g11) rfl rfl rfl ?_
          refine hh _ _ _ _ (fun r12 N12 G12 kc12 ks12 hh => ?_)
          obtain ⟨v12, er12, hh⟩ := hh
          subst er12
          refine w_ki (pc1 := 49) rfl ?_
          refine w_mv (pc1 := 50) (lv1 := [(3, .int v12), (0, .ref 10), (1, .ref y1), (2, .ref y2), (4, .int p4)]) (st1 := []) rfl rfl rfl ?_
          refine w_mv (pc1 := 53) (lv1 := [(4, .int (p4 + 1)), (3, .int v12), (0, .ref 10), (1, .ref y1), (2, .ref y2)]) (st1 := []) rfl rfl rfl ?_
          refine w_mv (pc1 := 17) (st1 := []) rfl rfl rfl ?_
          refine w_wk (l1 := [(0, .ref 10), (1, .ref y1), (2, .ref y2), (3, .int v12), (4, .int (p4 + 1))]) rfl ⟨rfl, rfl, rfl, rfl, rfl, trivial⟩ ?_
          refine hh d _ _ P (fun r N1 G1 kc1 ks1 q => ?_)
          exact c_acc (hP r N1 G1 _ _ q) (by omega) (by omega)
        ·
          replace hh := hh.2 (Int.not_lt.mp h6)
          refine w_ilt_F (pc1 := 9) rfl (by decide) rfl (show i2_1.toInt ≤ p4.toInt from (Int.not_lt.mp h6)) ?_
          refine w_mv (pc1 := 10) (st1 := [.null]) rfl rfl rfl ?_
          refine w_mv (pc1 := 11) (st1 := [.int p4, .null]) rfl rfl rfl ?_
          refine w_mv (pc1 := 12) (st1 := [.int i2_1, .int p4, .null]) rfl rfl rfl ?_
          exact hh.elim
    ·
      replace hh := hh.1 h4
      refine w_zne_T (pc1 := 56) rfl rfl (show p3.toInt ≠ 0 from h4) ?_
      refine w_mv (pc1 := 57) (st1 := [.int p3]) rfl rfl rfl ?_
      refine sx_wp.stop rfl rfl rfl ?_
      exact c_acc (hP _ _ _ _ _ hh) (by omega) (by omega)
set_option maxRecDepth 20000 in
set_option maxHeartbeats 4000000 in
theorem k_73_0 {h : Nat} {y1 : Nat} {y2 : Nat} {N : Nat} {G : Nat → sx_C} {K : Option Value ⊕ Nat → Nat → (Nat → sx_C) → Nat → Nat → Prop} (hh : 5 ≤ y2 ∧ y2 < N ∧ ∃ (i1_1 : Int32) (i1_2 : Int32) (i1_3 : Int32) (o1_4 : Option Nat), G y2 = .inr (.inl (10, [.ref (y2 + 1), .int i1_1, .int i1_2, .int i1_3, va_rf o1_4])) ∧ cT (1) sM_74 0 [(0, .ref y2)] [] (N) G (fun r2 N2 G2 kc2 ks2 => N = N2 ∧ G = G2 ∧ 0 = kc2 ∧ 0 = ks2 ∧ ∃ o2 : Option Nat, r2 = .inl (some (va_rf o2)) ∧ 5 ≤ y1 ∧ y1 < N ∧ ∃ (i3_0 : Int32) (i3_1 : Int32) (i3_3 : Int32) (i3_4 : Int32), G y1 = .inr (.inl (7, [.int i3_0, .int i3_1, .ref (y1 + 1), .int i3_3, .int i3_4])) ∧ ((i3_0.toInt ≠ 0 → ((i3_0.toInt ≠ 0 → ((o2 = none → False) ∧ (∀ x75, o2 = some x75 → 5 ≤ x75 ∧ x75 < N ∧ ∃ (i76_1 : Int32) (i76_2 : Int32) (i76_3 : Int32) (o76_4 : Option Nat), G x75 = .inr (.inl (10, [.ref (x75 + 1), .int i76_1, .int i76_2, .int i76_3, va_rf o76_4])) ∧ ((i76_1.toInt ≠ 0 → ((i3_0.toInt ≠ i76_1.toInt → K (.inl (some (.int 1))) (N) G (0) (0)) ∧ (i3_0.toInt = i76_1.toInt → ((i3_1.toInt ≠ i76_2.toInt → K (.inl (some (.int 1))) (N) G (0) (0)) ∧ (i3_1.toInt = i76_2.toInt → ((i3_3.toInt = i76_3.toInt → cT (h + 4) sM_73 110 [(0, .ref 10), (1, .ref y1), (2, .ref y2), (3, .ref x75), (4, .int 0), (5, .int 0)] [] (N) G (fun r N1 G1 kc1 ks1 => K r N1 G1 (kc1) (ks1))) ∧ (i3_3.toInt ≠ i76_3.toInt → K (.inl (some (.int 1))) (N) G (0) (0)))))))) ∧ (i76_1.toInt = 0 → 10 < N ∧ ∃ (i78_3 : Int32) (o78_4 : Option Nat), G 10 = .inr (.inl (3, [.ref 11, .ref 13, .ref 16, .int i78_3, va_rf o78_4])) ∧ K (.inl (some (.int 2))) (N) (va_up G 10 (.inr (.inl (3, [.ref 11, .ref 13, .ref 16, .int i78_3, .ref x75])))) (0) (0)))))) ∧ (i3_0.toInt = 0 → ((o2 = none → 10 < N ∧ ∃ (i50_3 : Int32) (o50_4 : Option Nat), G 10 = .inr (.inl (3, [.ref 11, .ref 13, .ref 16, .int i50_3, va_rf o50_4])) ∧ 16 < N ∧ ∃ (f51 : Nat → Option Nat), G 16 = .inl (6, (26, .inr (.inr (.inr (.inr f51))))) ∧ 0 ≤ i3_1.toInt ∧ i3_1.toInt < (26 : Nat) ∧ K (.inl (some (.int 0))) (N) (va_up (va_up G 16 (.inl (6, (26, .inr (.inr (.inr (.inr (va_up f51 i3_1.toNatClampNeg none)))))))) 10 (.inr (.inl (3, [.ref 11, .ref 13, .ref 16, .int (i50_3 ||| c_shl 1 i3_1), va_rf o50_4])))) (0) (0)) ∧ (∀ x49, o2 = some x49 → 10 < N ∧ ∃ (i61_3 : Int32) (o61_4 : Option Nat), G 10 = .inr (.inl (3, [.ref 11, .ref 13, .ref 16, .int i61_3, va_rf o61_4])) ∧ 16 < N ∧ ∃ (f62 : Nat → Option Nat), G 16 = .inl (6, (26, .inr (.inr (.inr (.inr f62))))) ∧ 0 ≤ i3_1.toInt ∧ i3_1.toInt < (26 : Nat) ∧ 5 ≤ x49 ∧ x49 < N ∧ ∃ (i64_1 : Int32) (i64_2 : Int32) (i64_3 : Int32) (o64_4 : Option Nat), G x49 = .inr (.inl (10, [.ref (x49 + 1), .int i64_1, .int i64_2, .int i64_3, va_rf o64_4])) ∧ K (.inl (some (.int 0))) (N) (va_up (va_up G 16 (.inl (6, (26, .inr (.inr (.inr (.inr (va_up f62 i3_1.toNatClampNeg (some x49))))))))) 10 (.inr (.inl (3, [.ref 11, .ref 13, .ref 16, .int (i61_3 ||| c_shl 1 i3_1), va_rf o61_4])))) (0) (0)))))) ∧ (i3_0.toInt = 0 → 10 < N ∧ ∃ (i5_3 : Int32) (o5_4 : Option Nat), G 10 = .inr (.inl (3, [.ref 11, .ref 13, .ref 16, .int i5_3, va_rf o5_4])) ∧ (((c_ushr i5_3 i3_1 &&& 1).toInt = 0 → ((i3_0.toInt ≠ 0 → ((o2 = none → False) ∧ (∀ x32, o2 = some x32 → 5 ≤ x32 ∧ x32 < N ∧ ∃ (i33_1 : Int32) (i33_2 : Int32) (i33_3 : Int32) (o33_4 : Option Nat), G x32 = .inr (.inl (10, [.ref (x32 + 1), .int i33_1, .int i33_2, .int i33_3, va_rf o33_4])) ∧ ((i33_1.toInt ≠ 0 → ((i3_0.toInt ≠ i33_1.toInt → K (.inl (some (.int 1))) (N) G (0) (0)) ∧ (i3_0.toInt = i33_1.toInt → ((i3_1.toInt ≠ i33_2.toInt → K (.inl (some (.int 1))) (N) G (0) (0)) ∧ (i3_1.toInt = i33_2.toInt → ((i3_3.toInt = i33_3.toInt → cT (h + 4) sM_73 110 [(0, .ref 10), (1, .ref y1), (2, .ref y2), (3, .ref x32), (4, .int 0), (5, .int 0)] [] (N) G (fun r N1 G1 kc1 ks1 => K r N1 G1 (kc1) (ks1))) ∧ (i3_3.toInt ≠ i33_3.toInt → K (.inl (some (.int 1))) (N) G (0) (0)))))))) ∧ (i33_1.toInt = 0 → K (.inl (some (.int 2))) (N) (va_up G 10 (.inr (.inl (3, [.ref 11, .ref 13, .ref 16, .int i5_3, .ref x32])))) (0) (0)))))) ∧ (i3_0.toInt = 0 → ((o2 = none → 16 < N ∧ ∃ (f9 : Nat → Option Nat), G 16 = .inl (6, (26, .inr (.inr (.inr (.inr f9))))) ∧ 0 ≤ i3_1.toInt ∧ i3_1.toInt < (26 : Nat) ∧ K (.inl (some (.int 0))) (N) (va_up (va_up G 16 (.inl (6, (26, .inr (.inr (.inr (.inr (va_up f9 i3_1.toNatClampNeg none)))))))) 10 (.inr (.inl (3, [.ref 11, .ref 13, .ref 16, .int (i5_3 ||| c_shl 1 i3_1), va_rf o5_4])))) (0) (0)) ∧ (∀ x8, o2 = some x8 → 16 < N ∧ ∃ (f19 : Nat → Option Nat), G 16 = .inl (6, (26, .inr (.inr (.inr (.inr f19))))) ∧ 0 ≤ i3_1.toInt ∧ i3_1.toInt < (26 : Nat) ∧ 5 ≤ x8 ∧ x8 < N ∧ ∃ (i21_1 : Int32) (i21_2 : Int32) (i21_3 : Int32) (o21_4 : Option Nat), G x8 = .inr (.inl (10, [.ref (x8 + 1), .int i21_1, .int i21_2, .int i21_3, va_rf o21_4])) ∧ K (.inl (some (.int 0))) (N) (va_up (va_up G 16 (.inl (6, (26, .inr (.inr (.inr (.inr (va_up f19 i3_1.toNatClampNeg (some x8))))))))) 10 (.inr (.inl (3, [.ref 11, .ref 13, .ref 16, .int (i5_3 ||| c_shl 1 i3_1), va_rf o5_4])))) (0) (0)))))) ∧ ((c_ushr i5_3 i3_1 &&& 1).toInt ≠ 0 → 16 < N ∧ ∃ (f42 : Nat → Option Nat), G 16 = .inl (6, (26, .inr (.inr (.inr (.inr f42))))) ∧ 0 ≤ i3_1.toInt ∧ i3_1.toInt < (26 : Nat) ∧ ∃ x44, f42 i3_1.toNatClampNeg = some x44 ∧ ((o2 = none → cT (3) sM_75 0 [(0, .ref 10), (1, .ref x44), (2, .null)] [] (N) G (fun r46 N46 G46 kc46 ks46 => ∃ v46 : Int32, r46 = .inl (some (.int v46)) ∧ K (.inl (some (.int v46))) (N46) G46 (kc46) (ks46))) ∧ (∀ x45, o2 = some x45 → cT (3) sM_75 0 [(0, .ref 10), (1, .ref x44), (2, .ref x45)] [] (N) G (fun r47 N47 G47 kc47 ks47 => ∃ v47 : Int32, r47 = .inl (some (.int v47)) ∧ K (.inl (some (.int v47))) (N47) G47 (kc47) (ks47)))))))))) : cT (h + 4) sM_73 0 [(0, .ref 10), (1, .ref y1), (2, .ref y2)] [] N G K := by
  intro d dc ds P hP
  show s_wp (d + h + 4) _ _ _ _ _ _ _ _
  refine w_mv (pc1 := 1) (st1 := [.ref y2]) rfl rfl rfl ?_
  obtain ⟨b1a, b1b, i1_1, i1_2, i1_3, o1_4, g1, hh⟩ := hh
  refine w_call (M' := sM_74) (vals := [.ref y2]) (rest := []) (lv' := [(0, .ref y2)]) rfl rfl rfl rfl rfl rfl (cH_rcv (by omega) (by omega) g1) rfl rfl rfl ?_
  refine hh _ _ _ _ (fun r2 N2 G2 kc2 ks2 hh => ?_)
  obtain ⟨eN2, eG2, ek2, es2, hh⟩ := hh
  subst eN2
  subst eG2
  subst ek2
  subst es2
  obtain ⟨o2, er2, hh⟩ := hh
  subst er2
  refine w_kr (pc1 := 4) rfl ?_
  refine w_mv (pc1 := 5) (lv1 := [(3, va_rf o2), (0, .ref 10), (1, .ref y1), (2, .ref y2)]) (st1 := []) rfl rfl (by cases o2 <;> rfl) ?_
  refine w_mv (pc1 := 6) (st1 := [.ref y1]) rfl rfl rfl ?_
  obtain ⟨b3a, b3b, i3_0, i3_1, i3_3, i3_4, g3, hh⟩ := hh
  refine cw_gf (v := .int i3_0) (pc1 := 9) rfl (by omega) (by omega) g3 rfl rfl ?_
  by_cases h4 : i3_0.toInt = 0
  ·
    replace hh := hh.2 h4
    refine w_zne_F (pc1 := 12) rfl (by decide) rfl (show i3_0.toInt = 0 from h4) ?_
    refine w_mv (pc1 := 13) (st1 := [.ref 10]) rfl rfl rfl ?_
    refine w_mv (pc1 := 14) (st1 := [.ref y1, .ref 10]) rfl rfl rfl ?_
    refine cw_gf (v := .int i3_1) (pc1 := 17) rfl (by omega) (by omega) g3 rfl rfl ?_
    obtain ⟨b5b, i5_3, o5_4, g5, hh⟩ := hh
    refine w_call (M' := sM_57) (vals := [.ref 10, .int i3_1]) (rest := []) (lv' := [(0, .ref 10), (1, .int i3_1)]) rfl rfl rfl rfl rfl rfl (cH_rcv (by omega) (by omega) g5) rfl rfl rfl ?_
    refine w_mv (pc1 := 1) (st1 := [.ref 10]) rfl rfl rfl ?_
    refine cw_gf (v := .int i5_3) (pc1 := 4) rfl (by omega) (by omega) g5 rfl rfl ?_
    refine w_mv (pc1 := 5) (st1 := [.int i3_1, .int i5_3]) rfl rfl rfl ?_
    refine w_mv (pc1 := 6) (st1 := [.int (c_ushr i5_3 i3_1)]) rfl rfl rfl ?_
    refine w_mv (pc1 := 7) (st1 := [.int 1, .int (c_ushr i5_3 i3_1)]) rfl rfl rfl ?_
    refine w_mv (pc1 := 8) (st1 := [.int (c_ushr i5_3 i3_1 &&& 1)]) rfl rfl rfl ?_
    by_cases h6 : (c_ushr i5_3 i3_1 &&& 1).toInt = 0
    ·
      replace hh := hh.1 h6
      refine w_zeq_T (pc1 := 15) rfl rfl (show (c_ushr i5_3 i3_1 &&& 1).toInt = 0 from h6) ?_
      refine w_mv (pc1 := 16) (st1 := [.int 0]) rfl rfl rfl ?_
      refine w_iret (pc1 := 20) rfl rfl rfl rfl ?_
      refine w_mv (pc1 := 38) (st1 := []) rfl rfl rfl ?_
      refine w_mv (pc1 := 39) (st1 := [.ref y1]) rfl rfl rfl ?_
      refine cw_gf (v := .int i3_0) (pc1 := 42) rfl (by omega) (by omega) g3 rfl rfl ?_
      by_cases h7 : i3_0.toInt = 0
      ·
        replace hh := hh.2 h7
        refine w_zne_F (pc1 := 45) rfl (by decide) rfl (show i3_0.toInt = 0 from h7) ?_
        refine w_mv (pc1 := 46) (st1 := [.ref 10]) rfl rfl rfl ?_
        refine w_mv (pc1 := 47) (st1 := [.ref y1, .ref 10]) rfl rfl rfl ?_
        refine cw_gf (v := .int i3_1) (pc1 := 50) rfl (by omega) (by omega) g3 rfl rfl ?_
        refine w_mv (pc1 := 51) (lv1 := [(3, va_rf o2), (0, .ref 10), (1, .ref y1), (2, .ref y2)]) (st1 := [va_rf o2, .int i3_1, .ref 10]) rfl rfl (by cases o2 <;> rfl) ?_
        cases o2 with
        | none =>
          replace hh := hh.1 rfl
          refine w_call (M' := sM_61) (vals := [.ref 10, .int i3_1, .null]) (rest := []) (lv' := [(0, .ref 10), (1, .int i3_1), (2, .null)]) rfl rfl rfl rfl rfl rfl (cH_rcv (by omega) (by omega) g5) rfl rfl rfl ?_
          refine w_mv (pc1 := 1) (st1 := [.ref 10]) rfl rfl rfl ?_
          refine cw_gf (v := .ref 16) (pc1 := 4) rfl (by omega) (by omega) g5 rfl rfl ?_
          refine w_mv (pc1 := 5) (st1 := [.int i3_1, .ref 16]) rfl rfl rfl ?_
          refine w_mv (pc1 := 6) (st1 := [.null, .int i3_1, .ref 16]) rfl rfl rfl ?_
          obtain ⟨b9b, f9, g9, hh⟩ := hh
          obtain ⟨q10a, q10b, hh⟩ := hh
          refine cw_asN (pc1 := 7) rfl (by omega) (by omega) g9 rfl q10a q10b rfl ?_
          have g11 : (va_up G 16 (.inl (6, (26, .inr (.inr (.inr (.inr (va_up f9 i3_1.toNatClampNeg none)))))))) y2 = .inr (.inl (10, [.ref (y2 + 1), .int i1_1, .int i1_2, .int i1_3, va_rf o1_4])) := (va_ne (ne_oa g1 g9)).trans g1
          have g12 : (va_up G 16 (.inl (6, (26, .inr (.inr (.inr (.inr (va_up f9 i3_1.toNatClampNeg none)))))))) y1 = .inr (.inl (7, [.int i3_0, .int i3_1, .ref (y1 + 1), .int i3_3, .int i3_4])) := (va_ne (ne_oa g3 g9)).trans g3
          have g13 : (va_up G 16 (.inl (6, (26, .inr (.inr (.inr (.inr (va_up f9 i3_1.toNatClampNeg none)))))))) 10 = .inr (.inl (3, [.ref 11, .ref 13, .ref 16, .int i5_3, va_rf o5_4])) := (va_ne (ne_oa g5 g9)).trans g5
          have g14 : (va_up G 16 (.inl (6, (26, .inr (.inr (.inr (.inr (va_up f9 i3_1.toNatClampNeg none)))))))) 16 = .inl (6, (26, .inr (.inr (.inr (.inr (va_up f9 i3_1.toNatClampNeg none)))))) := up_eq
          refine w_mv (pc1 := 8) (st1 := [.ref 10]) rfl rfl rfl ?_
          refine w_mv (pc1 := 9) (st1 := [.ref 10, .ref 10]) rfl rfl rfl ?_
          refine cw_gf (v := .int i5_3) (pc1 := 12) rfl (by omega) (by omega) g13 rfl rfl ?_
          refine w_mv (pc1 := 13) (st1 := [.int 1, .int i5_3, .ref 10]) rfl rfl rfl ?_
          refine w_mv (pc1 := 14) (st1 := [.int i3_1, .int 1, .int i5_3, .ref 10]) rfl rfl rfl ?_
          refine w_mv (pc1 := 15) (st1 := [.int (c_shl 1 i3_1), .int i5_3, .ref 10]) rfl rfl rfl ?_
          refine w_mv (pc1 := 16) (st1 := [.int (i5_3 ||| c_shl 1 i3_1), .ref 10]) rfl rfl rfl ?_
          refine cw_pf (c1 := .inr (.inl (3, [.ref 11, .ref 13, .ref 16, .int (i5_3 ||| c_shl 1 i3_1), va_rf o5_4]))) (pc1 := 19) rfl (by omega) (by omega) g13 rfl rfl rfl rfl ?_
          have g15 : (va_up (va_up G 16 (.inl (6, (26, .inr (.inr (.inr (.inr (va_up f9 i3_1.toNatClampNeg none)))))))) 10 (.inr (.inl (3, [.ref 11, .ref 13, .ref 16, .int (i5_3 ||| c_shl 1 i3_1), va_rf o5_4])))) y2 = .inr (.inl (10, [.ref (y2 + 1), .int i1_1, .int i1_2, .int i1_3, va_rf o1_4])) := (va_ne (ne_ob g11 g13 (by decide))).trans g11
          have g16 : (va_up (va_up G 16 (.inl (6, (26, .inr (.inr (.inr (.inr (va_up f9 i3_1.toNatClampNeg none)))))))) 10 (.inr (.inl (3, [.ref 11, .ref 13, .ref 16, .int (i5_3 ||| c_shl 1 i3_1), va_rf o5_4])))) y1 = .inr (.inl (7, [.int i3_0, .int i3_1, .ref (y1 + 1), .int i3_3, .int i3_4])) := (va_ne (ne_ob g12 g13 (by decide))).trans g12
          have g17 : (va_up (va_up G 16 (.inl (6, (26, .inr (.inr (.inr (.inr (va_up f9 i3_1.toNatClampNeg none)))))))) 10 (.inr (.inl (3, [.ref 11, .ref 13, .ref 16, .int (i5_3 ||| c_shl 1 i3_1), va_rf o5_4])))) 16 = .inl (6, (26, .inr (.inr (.inr (.inr (va_up f9 i3_1.toNatClampNeg none)))))) := (va_ne (ne_ao g14 g13)).trans g14
          have g18 : (va_up (va_up G 16 (.inl (6, (26, .inr (.inr (.inr (.inr (va_up f9 i3_1.toNatClampNeg none)))))))) 10 (.inr (.inl (3, [.ref 11, .ref 13, .ref 16, .int (i5_3 ||| c_shl 1 i3_1), va_rf o5_4])))) 10 = .inr (.inl (3, [.ref 11, .ref 13, .ref 16, .int (i5_3 ||| c_shl 1 i3_1), va_rf o5_4])) := up_eq
          refine w_vret (pc1 := 54) rfl rfl rfl ?_
          refine w_mv (pc1 := 55) (st1 := [.int 0]) rfl rfl rfl ?_
          refine sx_wp.stop rfl rfl rfl ?_
          exact c_acc (hP _ _ _ _ _ hh) (by omega) (by omega)
        | some x8 =>
          replace hh := hh.2 x8 rfl
          refine w_call (M' := sM_61) (vals := [.ref 10, .int i3_1, .ref x8]) (rest := []) (lv' := [(0, .ref 10), (1, .int i3_1), (2, .ref x8)]) rfl rfl rfl rfl rfl rfl (cH_rcv (by omega) (by omega) g5) rfl rfl rfl ?_
          refine w_mv (pc1 := 1) (st1 := [.ref 10]) rfl rfl rfl ?_
          refine cw_gf (v := .ref 16) (pc1 := 4) rfl (by omega) (by omega) g5 rfl rfl ?_
          refine w_mv (pc1 := 5) (st1 := [.int i3_1, .ref 16]) rfl rfl rfl ?_
          refine w_mv (pc1 := 6) (st1 := [.ref x8, .int i3_1, .ref 16]) rfl rfl rfl ?_
          obtain ⟨b19b, f19, g19, hh⟩ := hh
          obtain ⟨q20a, q20b, hh⟩ := hh
          obtain ⟨b21a, b21b, i21_1, i21_2, i21_3, o21_4, g21, hh⟩ := hh
          refine cw_as (pc1 := 7) rfl (by omega) (by omega) g19 (by omega) (by omega) g21 rfl q20a q20b rfl ?_
          have g22 : (va_up G 16 (.inl (6, (26, .inr (.inr (.inr (.inr (va_up f19 i3_1.toNatClampNeg (some x8))))))))) y2 = .inr (.inl (10, [.ref (y2 + 1), .int i1_1, .int i1_2, .int i1_3, va_rf o1_4])) := (va_ne (ne_oa g1 g19)).trans g1
          have g23 : (va_up G 16 (.inl (6, (26, .inr (.inr (.inr (.inr (va_up f19 i3_1.toNatClampNeg (some x8))))))))) y1 = .inr (.inl (7, [.int i3_0, .int i3_1, .ref (y1 + 1), .int i3_3, .int i3_4])) := (va_ne (ne_oa g3 g19)).trans g3
          have g24 : (va_up G 16 (.inl (6, (26, .inr (.inr (.inr (.inr (va_up f19 i3_1.toNatClampNeg (some x8))))))))) 10 = .inr (.inl (3, [.ref 11, .ref 13, .ref 16, .int i5_3, va_rf o5_4])) := (va_ne (ne_oa g5 g19)).trans g5
          have g25 : (va_up G 16 (.inl (6, (26, .inr (.inr (.inr (.inr (va_up f19 i3_1.toNatClampNeg (some x8))))))))) x8 = .inr (.inl (10, [.ref (x8 + 1), .int i21_1, .int i21_2, .int i21_3, va_rf o21_4])) := (va_ne (ne_oa g21 g19)).trans g21
          have g26 : (va_up G 16 (.inl (6, (26, .inr (.inr (.inr (.inr (va_up f19 i3_1.toNatClampNeg (some x8))))))))) 16 = .inl (6, (26, .inr (.inr (.inr (.inr (va_up f19 i3_1.toNatClampNeg (some x8))))))) := up_eq
          refine w_mv (pc1 := 8) (st1 := [.ref 10]) rfl rfl rfl ?_
          refine w_mv (pc1 := 9) (st1 := [.ref 10, .ref 10]) rfl rfl rfl ?_
          refine cw_gf (v := .int i5_3) (pc1 := 12) rfl (by omega) (by omega) g24 rfl rfl ?_
          refine w_mv (pc1 := 13) (st1 := [.int 1, .int i5_3, .ref 10]) rfl rfl rfl ?_
          refine w_mv (pc1 := 14) (st1 := [.int i3_1, .int 1, .int i5_3, .ref 10]) rfl rfl rfl ?_
          refine w_mv (pc1 := 15) (st1 := [.int (c_shl 1 i3_1), .int i5_3, .ref 10]) rfl rfl rfl ?_
          refine w_mv (pc1 := 16) (st1 := [.int (i5_3 ||| c_shl 1 i3_1), .ref 10]) rfl rfl rfl ?_
          refine cw_pf (c1 := .inr (.inl (3, [.ref 11, .ref 13, .ref 16, .int (i5_3 ||| c_shl 1 i3_1), va_rf o5_4]))) (pc1 := 19) rfl (by omega) (by omega) g24 rfl rfl rfl rfl ?_
          have g27 : (va_up (va_up G 16 (.inl (6, (26, .inr (.inr (.inr (.inr (va_up f19 i3_1.toNatClampNeg (some x8))))))))) 10 (.inr (.inl (3, [.ref 11, .ref 13, .ref 16, .int (i5_3 ||| c_shl 1 i3_1), va_rf o5_4])))) y2 = .inr (.inl (10, [.ref (y2 + 1), .int i1_1, .int i1_2, .int i1_3, va_rf o1_4])) := (va_ne (ne_ob g22 g24 (by decide))).trans g22
          have g28 : (va_up (va_up G 16 (.inl (6, (26, .inr (.inr (.inr (.inr (va_up f19 i3_1.toNatClampNeg (some x8))))))))) 10 (.inr (.inl (3, [.ref 11, .ref 13, .ref 16, .int (i5_3 ||| c_shl 1 i3_1), va_rf o5_4])))) y1 = .inr (.inl (7, [.int i3_0, .int i3_1, .ref (y1 + 1), .int i3_3, .int i3_4])) := (va_ne (ne_ob g23 g24 (by decide))).trans g23
          have g29 : (va_up (va_up G 16 (.inl (6, (26, .inr (.inr (.inr (.inr (va_up f19 i3_1.toNatClampNeg (some x8))))))))) 10 (.inr (.inl (3, [.ref 11, .ref 13, .ref 16, .int (i5_3 ||| c_shl 1 i3_1), va_rf o5_4])))) x8 = .inr (.inl (10, [.ref (x8 + 1), .int i21_1, .int i21_2, .int i21_3, va_rf o21_4])) := (va_ne (ne_ob g25 g24 (by decide))).trans g25
          have g30 : (va_up (va_up G 16 (.inl (6, (26, .inr (.inr (.inr (.inr (va_up f19 i3_1.toNatClampNeg (some x8))))))))) 10 (.inr (.inl (3, [.ref 11, .ref 13, .ref 16, .int (i5_3 ||| c_shl 1 i3_1), va_rf o5_4])))) 16 = .inl (6, (26, .inr (.inr (.inr (.inr (va_up f19 i3_1.toNatClampNeg (some x8))))))) := (va_ne (ne_ao g26 g24)).trans g26
          have g31 : (va_up (va_up G 16 (.inl (6, (26, .inr (.inr (.inr (.inr (va_up f19 i3_1.toNatClampNeg (some x8))))))))) 10 (.inr (.inl (3, [.ref 11, .ref 13, .ref 16, .int (i5_3 ||| c_shl 1 i3_1), va_rf o5_4])))) 10 = .inr (.inl (3, [.ref 11, .ref 13, .ref 16, .int (i5_3 ||| c_shl 1 i3_1), va_rf o5_4])) := up_eq
          refine w_vret (pc1 := 54) rfl rfl rfl ?_
          refine w_mv (pc1 := 55) (st1 := [.int 0]) rfl rfl rfl ?_
          refine sx_wp.stop rfl rfl rfl ?_
          exact c_acc (hP _ _ _ _ _ hh) (by omega) (by omega)
      ·
        replace hh := hh.1 h7
        refine w_zne_T (pc1 := 56) rfl rfl (show i3_0.toInt ≠ 0 from h7) ?_
        refine w_mv (pc1 := 57) (lv1 := [(3, va_rf o2), (0, .ref 10), (1, .ref y1), (2, .ref y2)]) (st1 := [va_rf o2]) rfl rfl (by cases o2 <;> rfl) ?_
        cases o2 with
        | none =>
          replace hh := hh.1 rfl
          exact hh.elim
        | some x32 =>
          replace hh := hh.2 x32 rfl
          obtain ⟨b33a, b33b, i33_1, i33_2, i33_3, o33_4, g33, hh⟩ := hh
          refine cw_gf (v := .int i33_1) (pc1 := 60) rfl (by omega) (by omega) g33 rfl rfl ?_
          by_cases h34 : i33_1.toInt = 0
          ·
            replace hh := hh.2 h34
            refine w_zne_F (pc1 := 63) rfl (by decide) rfl (show i33_1.toInt = 0 from h34) ?_
            refine w_mv (pc1 := 64) (st1 := [.ref 10]) rfl rfl rfl ?_
            refine w_mv (pc1 := 65) (st1 := [.ref x32, .ref 10]) rfl rfl rfl ?_
            refine w_call (M' := sM_81) (vals := [.ref 10, .ref x32]) (rest := []) (lv' := [(0, .ref 10), (1, .ref x32)]) rfl rfl rfl rfl rfl rfl (cH_rcv (by omega) (by omega) g5) rfl rfl rfl ?_
            refine w_mv (pc1 := 1) (st1 := [.ref 10]) rfl rfl rfl ?_
            refine w_mv (pc1 := 2) (st1 := [.ref x32, .ref 10]) rfl rfl rfl ?_
            refine cw_pf (c1 := .inr (.inl (3, [.ref 11, .ref 13, .ref 16, .int i5_3, .ref x32]))) (pc1 := 5) rfl (by omega) (by omega) g5 rfl rfl rfl rfl ?_
            have g35 : (va_up G 10 (.inr (.inl (3, [.ref 11, .ref 13, .ref 16, .int i5_3, .ref x32])))) y2 = .inr (.inl (10, [.ref (y2 + 1), .int i1_1, .int i1_2, .int i1_3, va_rf o1_4])) := (va_ne (ne_ob g1 g5 (by decide))).trans g1
            have g36 : (va_up G 10 (.inr (.inl (3, [.ref 11, .ref 13, .ref 16, .int i5_3, .ref x32])))) y1 = .inr (.inl (7, [.int i3_0, .int i3_1, .ref (y1 + 1), .int i3_3, .int i3_4])) := (va_ne (ne_ob g3 g5 (by decide))).trans g3
            have g37 : (va_up G 10 (.inr (.inl (3, [.ref 11, .ref 13, .ref 16, .int i5_3, .ref x32])))) x32 = .inr (.inl (10, [.ref (x32 + 1), .int i33_1, .int i33_2, .int i33_3, va_rf o33_4])) := (va_ne (ne_ob g33 g5 (by decide))).trans g33
            have g38 : (va_up G 10 (.inr (.inl (3, [.ref 11, .ref 13, .ref 16, .int i5_3, .ref x32])))) 10 = .inr (.inl (3, [.ref 11, .ref 13, .ref 16, .int i5_3, .ref x32])) := up_eq
            refine w_mv (pc1 := 6) (st1 := [.int 2]) rfl rfl rfl ?_
            refine w_iret (pc1 := 68) rfl rfl rfl rfl ?_
            refine sx_wp.stop rfl rfl rfl ?_
            exact c_acc (hP _ _ _ _ _ hh) (by omega) (by omega)
          ·
            replace hh := hh.1 h34
            refine w_zne_T (pc1 := 69) rfl rfl (show i33_1.toInt ≠ 0 from h34) ?_
            refine w_mv (pc1 := 70) (st1 := [.ref y1]) rfl rfl rfl ?_
            refine cw_gf (v := .int i3_0) (pc1 := 73) rfl (by omega) (by omega) g3 rfl rfl ?_
            refine w_mv (pc1 := 74) (st1 := [.ref x32, .int i3_0]) rfl rfl rfl ?_
            refine cw_gf (v := .int i33_1) (pc1 := 77) rfl (by omega) (by omega) g33 rfl rfl ?_
            by_cases h39 : i3_0.toInt = i33_1.toInt
            ·
              replace hh := hh.2 h39
              refine w_ine_F (pc1 := 80) rfl (by decide) rfl (show i3_0.toInt = i33_1.toInt from h39) ?_
              refine w_mv (pc1 := 81) (st1 := [.ref y1]) rfl rfl rfl ?_
              refine cw_gf (v := .int i3_1) (pc1 := 84) rfl (by omega) (by omega) g3 rfl rfl ?_
              refine w_mv (pc1 := 85) (st1 := [.ref x32, .int i3_1]) rfl rfl rfl ?_
              refine cw_gf (v := .int i33_2) (pc1 := 88) rfl (by omega) (by omega) g33 rfl rfl ?_
              by_cases h40 : i3_1.toInt = i33_2.toInt
              ·
                replace hh := hh.2 h40
                refine w_ine_F (pc1 := 91) rfl (by decide) rfl (show i3_1.toInt = i33_2.toInt from h40) ?_
                refine w_mv (pc1 := 92) (st1 := [.ref y1]) rfl rfl rfl ?_
                refine cw_gf (v := .int i3_3) (pc1 := 95) rfl (by omega) (by omega) g3 rfl rfl ?_
                refine w_mv (pc1 := 96) (st1 := [.ref x32, .int i3_3]) rfl rfl rfl ?_
                refine cw_gf (v := .int i33_3) (pc1 := 99) rfl (by omega) (by omega) g33 rfl rfl ?_
                by_cases h41 : i3_3.toInt = i33_3.toInt
                ·
                  replace hh := hh.1 h41
                  refine w_ieq_T (pc1 := 104) rfl rfl (show i3_3.toInt = i33_3.toInt from h41) ?_
                  refine w_mv (pc1 := 105) (st1 := [.int 0]) rfl rfl rfl ?_
                  refine w_mv (pc1 := 107) (lv1 := [(4, .int 0), (3, .ref x32), (0, .ref 10), (1, .ref y1), (2, .ref y2)]) (st1 := []) rfl rfl rfl ?_
                  refine w_mv (pc1 := 108) (st1 := [.int 0]) rfl rfl rfl ?_
                  refine w_mv (pc1 := 110) (lv1 := [(5, .int 0), (4, .int 0), (3, .ref x32), (0, .ref 10), (1, .ref y1), (2, .ref y2)]) (st1 := []) rfl rfl rfl ?_
                  refine w_wk (l1 := [(0, .ref 10), (1, .ref y1), (2, .ref y2), (3, .ref x32), (4, .int 0), (5, .int 0)]) rfl ⟨rfl, rfl, rfl, rfl, rfl, rfl, trivial⟩ ?_
                  refine hh d _ _ P (fun r N1 G1 kc1 ks1 q => ?_)
                  exact c_acc (hP r N1 G1 _ _ q) (by omega) (by omega)
                ·
                  replace hh := hh.2 h41
                  refine w_ieq_F (pc1 := 102) rfl (by decide) rfl (show i3_3.toInt ≠ i33_3.toInt from h41) ?_
                  refine w_mv (pc1 := 103) (st1 := [.int 1]) rfl rfl rfl ?_
                  refine sx_wp.stop rfl rfl rfl ?_
                  exact c_acc (hP _ _ _ _ _ hh) (by omega) (by omega)
              ·
                replace hh := hh.1 h40
                refine w_ine_T (pc1 := 102) rfl rfl (show i3_1.toInt ≠ i33_2.toInt from h40) ?_
                refine w_mv (pc1 := 103) (st1 := [.int 1]) rfl rfl rfl ?_
                refine sx_wp.stop rfl rfl rfl ?_
                exact c_acc (hP _ _ _ _ _ hh) (by omega) (by omega)
            ·
              replace hh := hh.1 h39
              refine w_ine_T (pc1 := 102) rfl rfl (show i3_0.toInt ≠ i33_1.toInt from h39) ?_
              refine w_mv (pc1 := 103) (st1 := [.int 1]) rfl rfl rfl ?_
              refine sx_wp.stop rfl rfl rfl ?_
              exact c_acc (hP _ _ _ _ _ hh) (by omega) (by omega)
    ·
      replace hh := hh.2 h6
      refine w_zeq_F (pc1 := 11) rfl (by decide) rfl (show (c_ushr i5_3 i3_1 &&& 1).toInt ≠ 0 from h6) ?_
      refine w_mv (pc1 := 12) (st1 := [.int 1]) rfl rfl rfl ?_
      refine w_mv (pc1 := 16) (st1 := [.int 1]) rfl rfl rfl ?_
      refine w_iret (pc1 := 20) rfl rfl rfl rfl ?_
      refine w_mv (pc1 := 23) (st1 := []) rfl rfl rfl ?_
      refine w_mv (pc1 := 24) (st1 := [.ref 10]) rfl rfl rfl ?_
      refine w_mv (pc1 := 25) (st1 := [.ref 10, .ref 10]) rfl rfl rfl ?_
      refine cw_gf (v := .ref 16) (pc1 := 28) rfl (by omega) (by omega) g5 rfl rfl ?_
      refine w_mv (pc1 := 29) (st1 := [.ref y1, .ref 16, .ref 10]) rfl rfl rfl ?_
      refine cw_gf (v := .int i3_1) (pc1 := 32) rfl (by omega) (by omega) g3 rfl rfl ?_
      obtain ⟨b42b, f42, g42, hh⟩ := hh
      obtain ⟨q43a, q43b, hh⟩ := hh
      refine cw_ald (pc1 := 33) rfl (by omega) g42 rfl q43a q43b rfl ?_
      obtain ⟨x44, e44, hh⟩ := hh
      rw [e44]
      refine w_mv (pc1 := 34) (lv1 := [(3, va_rf o2), (0, .ref 10), (1, .ref y1), (2, .ref y2)]) (st1 := [va_rf o2, .ref x44, .ref 10]) rfl rfl (by cases o2 <;> rfl) ?_
      cases o2 with
      | none =>
        replace hh := hh.1 rfl
        refine w_call (M' := sM_75) (vals := [.ref 10, .ref x44, .null]) (rest := []) (lv' := [(0, .ref 10), (1, .ref x44), (2, .null)]) rfl rfl rfl rfl rfl rfl (cH_rcv (by omega) (by omega) g5) rfl rfl rfl ?_
        refine hh _ _ _ _ (fun r46 N46 G46 kc46 ks46 hh => ?_)
        obtain ⟨v46, er46, hh⟩ := hh
        subst er46
        refine w_ki (pc1 := 37) rfl ?_
        refine sx_wp.stop rfl rfl rfl ?_
        exact c_acc (hP _ _ _ _ _ hh) (by omega) (by omega)
      | some x45 =>
        replace hh := hh.2 x45 rfl
        refine w_call (M' := sM_75) (vals := [.ref 10, .ref x44, .ref x45]) (rest := []) (lv' := [(0, .ref 10), (1, .ref x44), (2, .ref x45)]) rfl rfl rfl rfl rfl rfl (cH_rcv (by omega) (by omega) g5) rfl rfl rfl ?_
        refine hh _ _ _ _ (fun r47 N47 G47 kc47 ks47 hh => ?_)
        obtain ⟨v47, er47, hh⟩ := hh
        subst er47
        refine w_ki (pc1 := 37) rfl ?_
        refine sx_wp.stop rfl rfl rfl ?_
        exact c_acc (hP _ _ _ _ _ hh) (by omega) (by omega)
  ·
    replace hh := hh.1 h4
    refine w_zne_T (pc1 := 38) rfl rfl (show i3_0.toInt ≠ 0 from h4) ?_
    refine w_mv (pc1 := 39) (st1 := [.ref y1]) rfl rfl rfl ?_
    refine cw_gf (v := .int i3_0) (pc1 := 42) rfl (by omega) (by omega) g3 rfl rfl ?_
    by_cases h48 : i3_0.toInt = 0
    ·
      replace hh := hh.2 h48
      refine w_zne_F (pc1 := 45) rfl (by decide) rfl (show i3_0.toInt = 0 from h48) ?_
      refine w_mv (pc1 := 46) (st1 := [.ref 10]) rfl rfl rfl ?_
      refine w_mv (pc1 := 47) (st1 := [.ref y1, .ref 10]) rfl rfl rfl ?_
      refine cw_gf (v := .int i3_1) (pc1 := 50) rfl (by omega) (by omega) g3 rfl rfl ?_
      refine w_mv (pc1 := 51) (lv1 := [(3, va_rf o2), (0, .ref 10), (1, .ref y1), (2, .ref y2)]) (st1 := [va_rf o2, .int i3_1, .ref 10]) rfl rfl (by cases o2 <;> rfl) ?_
      cases o2 with
      | none =>
        replace hh := hh.1 rfl
        obtain ⟨b50b, i50_3, o50_4, g50, hh⟩ := hh
        refine w_call (M' := sM_61) (vals := [.ref 10, .int i3_1, .null]) (rest := []) (lv' := [(0, .ref 10), (1, .int i3_1), (2, .null)]) rfl rfl rfl rfl rfl rfl (cH_rcv (by omega) (by omega) g50) rfl rfl rfl ?_
        refine w_mv (pc1 := 1) (st1 := [.ref 10]) rfl rfl rfl ?_
        refine cw_gf (v := .ref 16) (pc1 := 4) rfl (by omega) (by omega) g50 rfl rfl ?_
        refine w_mv (pc1 := 5) (st1 := [.int i3_1, .ref 16]) rfl rfl rfl ?_
        refine w_mv (pc1 := 6) (st1 := [.null, .int i3_1, .ref 16]) rfl rfl rfl ?_
        obtain ⟨b51b, f51, g51, hh⟩ := hh
        obtain ⟨q52a, q52b, hh⟩ := hh
        refine cw_asN (pc1 := 7) rfl (by omega) (by omega) g51 rfl q52a q52b rfl ?_
        have g53 : (va_up G 16 (.inl (6, (26, .inr (.inr (.inr (.inr (va_up f51 i3_1.toNatClampNeg none)))))))) y2 = .inr (.inl (10, [.ref (y2 + 1), .int i1_1, .int i1_2, .int i1_3, va_rf o1_4])) := (va_ne (ne_oa g1 g51)).trans g1
        have g54 : (va_up G 16 (.inl (6, (26, .inr (.inr (.inr (.inr (va_up f51 i3_1.toNatClampNeg none)))))))) y1 = .inr (.inl (7, [.int i3_0, .int i3_1, .ref (y1 + 1), .int i3_3, .int i3_4])) := (va_ne (ne_oa g3 g51)).trans g3
        have g55 : (va_up G 16 (.inl (6, (26, .inr (.inr (.inr (.inr (va_up f51 i3_1.toNatClampNeg none)))))))) 10 = .inr (.inl (3, [.ref 11, .ref 13, .ref 16, .int i50_3, va_rf o50_4])) := (va_ne (ne_oa g50 g51)).trans g50
        have g56 : (va_up G 16 (.inl (6, (26, .inr (.inr (.inr (.inr (va_up f51 i3_1.toNatClampNeg none)))))))) 16 = .inl (6, (26, .inr (.inr (.inr (.inr (va_up f51 i3_1.toNatClampNeg none)))))) := up_eq
        refine w_mv (pc1 := 8) (st1 := [.ref 10]) rfl rfl rfl ?_
        refine w_mv (pc1 := 9) (st1 := [.ref 10, .ref 10]) rfl rfl rfl ?_
        refine cw_gf (v := .int i50_3) (pc1 := 12) rfl (by omega) (by omega) g55 rfl rfl ?_
        refine w_mv (pc1 := 13) (st1 := [.int 1, .int i50_3, .ref 10]) rfl rfl rfl ?_
        refine w_mv (pc1 := 14) (st1 := [.int i3_1, .int 1, .int i50_3, .ref 10]) rfl rfl rfl ?_
        refine w_mv (pc1 := 15) (st1 := [.int (c_shl 1 i3_1), .int i50_3, .ref 10]) rfl rfl rfl ?_
        refine w_mv (pc1 := 16) (st1 := [.int (i50_3 ||| c_shl 1 i3_1), .ref 10]) rfl rfl rfl ?_
        refine cw_pf (c1 := .inr (.inl (3, [.ref 11, .ref 13, .ref 16, .int (i50_3 ||| c_shl 1 i3_1), va_rf o50_4]))) (pc1 := 19) rfl (by omega) (by omega) g55 rfl rfl rfl rfl ?_
        have g57 : (va_up (va_up G 16 (.inl (6, (26, .inr (.inr (.inr (.inr (va_up f51 i3_1.toNatClampNeg none)))))))) 10 (.inr (.inl (3, [.ref 11, .ref 13, .ref 16, .int (i50_3 ||| c_shl 1 i3_1), va_rf o50_4])))) y2 = .inr (.inl (10, [.ref (y2 + 1), .int i1_1, .int i1_2, .int i1_3, va_rf o1_4])) := (va_ne (ne_ob g53 g55 (by decide))).trans g53
        have g58 : (va_up (va_up G 16 (.inl (6, (26, .inr (.inr (.inr (.inr (va_up f51 i3_1.toNatClampNeg none)))))))) 10 (.inr (.inl (3, [.ref 11, .ref 13, .ref 16, .int (i50_3 ||| c_shl 1 i3_1), va_rf o50_4])))) y1 = .inr (.inl (7, [.int i3_0, .int i3_1, .ref (y1 + 1), .int i3_3, .int i3_4])) := (va_ne (ne_ob g54 g55 (by decide))).trans g54
        have g59 : (va_up (va_up G 16 (.inl (6, (26, .inr (.inr (.inr (.inr (va_up f51 i3_1.toNatClampNeg none)))))))) 10 (.inr (.inl (3, [.ref 11, .ref 13, .ref 16, .int (i50_3 ||| c_shl 1 i3_1), va_rf o50_4])))) 16 = .inl (6, (26, .inr (.inr (.inr (.inr (va_up f51 i3_1.toNatClampNeg none)))))) := (va_ne (ne_ao g56 g55)).trans g56
        have g60 : (va_up (va_up G 16 (.inl (6, (26, .inr (.inr (.inr (.inr (va_up f51 i3_1.toNatClampNeg none)))))))) 10 (.inr (.inl (3, [.ref 11, .ref 13, .ref 16, .int (i50_3 ||| c_shl 1 i3_1), va_rf o50_4])))) 10 = .inr (.inl (3, [.ref 11, .ref 13, .ref 16, .int (i50_3 ||| c_shl 1 i3_1), va_rf o50_4])) := up_eq
        refine w_vret (pc1 := 54) rfl rfl rfl ?_
        refine w_mv (pc1 := 55) (st1 := [.int 0]) rfl rfl rfl ?_
        refine sx_wp.stop rfl rfl rfl ?_
        exact c_acc (hP _ _ _ _ _ hh) (by omega) (by omega)
      | some x49 =>
        replace hh := hh.2 x49 rfl
        obtain ⟨b61b, i61_3, o61_4, g61, hh⟩ := hh
        refine w_call (M' := sM_61) (vals := [.ref 10, .int i3_1, .ref x49]) (rest := []) (lv' := [(0, .ref 10), (1, .int i3_1), (2, .ref x49)]) rfl rfl rfl rfl rfl rfl (cH_rcv (by omega) (by omega) g61) rfl rfl rfl ?_
        refine w_mv (pc1 := 1) (st1 := [.ref 10]) rfl rfl rfl ?_
        refine cw_gf (v := .ref 16) (pc1 := 4) rfl (by omega) (by omega) g61 rfl rfl ?_
        refine w_mv (pc1 := 5) (st1 := [.int i3_1, .ref 16]) rfl rfl rfl ?_
        refine w_mv (pc1 := 6) (st1 := [.ref x49, .int i3_1, .ref 16]) rfl rfl rfl ?_
        obtain ⟨b62b, f62, g62, hh⟩ := hh
        obtain ⟨q63a, q63b, hh⟩ := hh
        obtain ⟨b64a, b64b, i64_1, i64_2, i64_3, o64_4, g64, hh⟩ := hh
        refine cw_as (pc1 := 7) rfl (by omega) (by omega) g62 (by omega) (by omega) g64 rfl q63a q63b rfl ?_
        have g65 : (va_up G 16 (.inl (6, (26, .inr (.inr (.inr (.inr (va_up f62 i3_1.toNatClampNeg (some x49))))))))) y2 = .inr (.inl (10, [.ref (y2 + 1), .int i1_1, .int i1_2, .int i1_3, va_rf o1_4])) := (va_ne (ne_oa g1 g62)).trans g1
        have g66 : (va_up G 16 (.inl (6, (26, .inr (.inr (.inr (.inr (va_up f62 i3_1.toNatClampNeg (some x49))))))))) y1 = .inr (.inl (7, [.int i3_0, .int i3_1, .ref (y1 + 1), .int i3_3, .int i3_4])) := (va_ne (ne_oa g3 g62)).trans g3
        have g67 : (va_up G 16 (.inl (6, (26, .inr (.inr (.inr (.inr (va_up f62 i3_1.toNatClampNeg (some x49))))))))) 10 = .inr (.inl (3, [.ref 11, .ref 13, .ref 16, .int i61_3, va_rf o61_4])) := (va_ne (ne_oa g61 g62)).trans g61
        have g68 : (va_up G 16 (.inl (6, (26, .inr (.inr (.inr (.inr (va_up f62 i3_1.toNatClampNeg (some x49))))))))) x49 = .inr (.inl (10, [.ref (x49 + 1), .int i64_1, .int i64_2, .int i64_3, va_rf o64_4])) := (va_ne (ne_oa g64 g62)).trans g64
        have g69 : (va_up G 16 (.inl (6, (26, .inr (.inr (.inr (.inr (va_up f62 i3_1.toNatClampNeg (some x49))))))))) 16 = .inl (6, (26, .inr (.inr (.inr (.inr (va_up f62 i3_1.toNatClampNeg (some x49))))))) := up_eq
        refine w_mv (pc1 := 8) (st1 := [.ref 10]) rfl rfl rfl ?_
        refine w_mv (pc1 := 9) (st1 := [.ref 10, .ref 10]) rfl rfl rfl ?_
        refine cw_gf (v := .int i61_3) (pc1 := 12) rfl (by omega) (by omega) g67 rfl rfl ?_
        refine w_mv (pc1 := 13) (st1 := [.int 1, .int i61_3, .ref 10]) rfl rfl rfl ?_
        refine w_mv (pc1 := 14) (st1 := [.int i3_1, .int 1, .int i61_3, .ref 10]) rfl rfl rfl ?_
        refine w_mv (pc1 := 15) (st1 := [.int (c_shl 1 i3_1), .int i61_3, .ref 10]) rfl rfl rfl ?_
        refine w_mv (pc1 := 16) (st1 := [.int (i61_3 ||| c_shl 1 i3_1), .ref 10]) rfl rfl rfl ?_
        refine cw_pf (c1 := .inr (.inl (3, [.ref 11, .ref 13, .ref 16, .int (i61_3 ||| c_shl 1 i3_1), va_rf o61_4]))) (pc1 := 19) rfl (by omega) (by omega) g67 rfl rfl rfl rfl ?_
        have g70 : (va_up (va_up G 16 (.inl (6, (26, .inr (.inr (.inr (.inr (va_up f62 i3_1.toNatClampNeg (some x49))))))))) 10 (.inr (.inl (3, [.ref 11, .ref 13, .ref 16, .int (i61_3 ||| c_shl 1 i3_1), va_rf o61_4])))) y2 = .inr (.inl (10, [.ref (y2 + 1), .int i1_1, .int i1_2, .int i1_3, va_rf o1_4])) := (va_ne (ne_ob g65 g67 (by decide))).trans g65
        have g71 : (va_up (va_up G 16 (.inl (6, (26, .inr (.inr (.inr (.inr (va_up f62 i3_1.toNatClampNeg (some x49))))))))) 10 (.inr (.inl (3, [.ref 11, .ref 13, .ref 16, .int (i61_3 ||| c_shl 1 i3_1), va_rf o61_4])))) y1 = .inr (.inl (7, [.int i3_0, .int i3_1, .ref (y1 + 1), .int i3_3, .int i3_4])) := (va_ne (ne_ob g66 g67 (by decide))).trans g66
        have g72 : (va_up (va_up G 16 (.inl (6, (26, .inr (.inr (.inr (.inr (va_up f62 i3_1.toNatClampNeg (some x49))))))))) 10 (.inr (.inl (3, [.ref 11, .ref 13, .ref 16, .int (i61_3 ||| c_shl 1 i3_1), va_rf o61_4])))) x49 = .inr (.inl (10, [.ref (x49 + 1), .int i64_1, .int i64_2, .int i64_3, va_rf o64_4])) := (va_ne (ne_ob g68 g67 (by decide))).trans g68
        have g73 : (va_up (va_up G 16 (.inl (6, (26, .inr (.inr (.inr (.inr (va_up f62 i3_1.toNatClampNeg (some x49))))))))) 10 (.inr (.inl (3, [.ref 11, .ref 13, .ref 16, .int (i61_3 ||| c_shl 1 i3_1), va_rf o61_4])))) 16 = .inl (6, (26, .inr (.inr (.inr (.inr (va_up f62 i3_1.toNatClampNeg (some x49))))))) := (va_ne (ne_ao g69 g67)).trans g69
        have g74 : (va_up (va_up G 16 (.inl (6, (26, .inr (.inr (.inr (.inr (va_up f62 i3_1.toNatClampNeg (some x49))))))))) 10 (.inr (.inl (3, [.ref 11, .ref 13, .ref 16, .int (i61_3 ||| c_shl 1 i3_1), va_rf o61_4])))) 10 = .inr (.inl (3, [.ref 11, .ref 13, .ref 16, .int (i61_3 ||| c_shl 1 i3_1), va_rf o61_4])) := up_eq
        refine w_vret (pc1 := 54) rfl rfl rfl ?_
        refine w_mv (pc1 := 55) (st1 := [.int 0]) rfl rfl rfl ?_
        refine sx_wp.stop rfl rfl rfl ?_
        exact c_acc (hP _ _ _ _ _ hh) (by omega) (by omega)
    ·
      replace hh := hh.1 h48
      refine w_zne_T (pc1 := 56) rfl rfl (show i3_0.toInt ≠ 0 from h48) ?_
      refine w_mv (pc1 := 57) (lv1 := [(3, va_rf o2), (0, .ref 10), (1, .ref y1), (2, .ref y2)]) (st1 := [va_rf o2]) rfl rfl (by cases o2 <;> rfl) ?_
      cases o2 with
      | none =>
        replace hh := hh.1 rfl
        exact hh.elim
      | some x75 =>
        replace hh := hh.2 x75 rfl
        obtain ⟨b76a, b76b, i76_1, i76_2, i76_3, o76_4, g76, hh⟩ := hh
        refine cw_gf (v := .int i76_1) (pc1 := 60) rfl (by omega) (by omega) g76 rfl rfl ?_
        by_cases h77 : i76_1.toInt = 0
        ·
          replace hh := hh.2 h77
          refine w_zne_F (pc1 := 63) rfl (by decide) rfl (show i76_1.toInt = 0 from h77) ?_
          refine w_mv (pc1 := 64) (st1 := [.ref 10]) rfl rfl rfl ?_
          refine w_mv (pc1 := 65) (st1 := [.ref x75, .ref 10]) rfl rfl rfl ?_
          obtain ⟨b78b, i78_3, o78_4, g78, hh⟩ := hh
          refine w_call (M' := sM_81) (vals := [.ref 10, .ref x75]) (rest := []) (lv' := [(0, .ref 10), (1, .ref x75)]) rfl rfl rfl rfl rfl rfl (cH_rcv (by omega) (by omega) g78) rfl rfl rfl ?_
          refine w_mv (pc1 := 1) (st1 := [.ref 10]) rfl rfl rfl ?_
          refine w_mv (pc1 := 2) (st1 := [.ref x75, .ref 10]) rfl rfl rfl ?_
          refine cw_pf (c1 := .inr (.inl (3, [.ref 11, .ref 13, .ref 16, .int i78_3, .ref x75]))) (pc1 := 5) rfl (by omega) (by omega) g78 rfl rfl rfl rfl ?_
          have g79 : (va_up G 10 (.inr (.inl (3, [.ref 11, .ref 13, .ref 16, .int i78_3, .ref x75])))) y2 = .inr (.inl (10, [.ref (y2 + 1), .int i1_1, .int i1_2, .int i1_3, va_rf o1_4])) := (va_ne (ne_ob g1 g78 (by decide))).trans g1
          have g80 : (va_up G 10 (.inr (.inl (3, [.ref 11, .ref 13, .ref 16, .int i78_3, .ref x75])))) y1 = .inr (.inl (7, [.int i3_0, .int i3_1, .ref (y1 + 1), .int i3_3, .int i3_4])) := (va_ne (ne_ob g3 g78 (by decide))).trans g3
          have g81 : (va_up G 10 (.inr (.inl (3, [.ref 11, .ref 13, .ref 16, .int i78_3, .ref x75])))) x75 = .inr (.inl (10, [.ref (x75 + 1), .int i76_1, .int i76_2, .int i76_3, va_rf o76_4])) := (va_ne (ne_ob g76 g78 (by decide))).trans g76
          have g82 : (va_up G 10 (.inr (.inl (3, [.ref 11, .ref 13, .ref 16, .int i78_3, .ref x75])))) 10 = .inr (.inl (3, [.ref 11, .ref 13, .ref 16, .int i78_3, .ref x75])) := up_eq
          refine w_mv (pc1 := 6) (st1 := [.int 2]) rfl rfl rfl ?_
          refine w_iret (pc1 := 68) rfl rfl rfl rfl ?_
          refine sx_wp.stop rfl rfl rfl ?_
          exact c_acc (hP _ _ _ _ _ hh) (by omega) (by omega)
        ·
          replace hh := hh.1 h77
          refine w_zne_T (pc1 := 69) rfl rfl (show i76_1.toInt ≠ 0 from h77) ?_
          refine w_mv (pc1 := 70) (st1 := [.ref y1]) rfl rfl rfl ?_
          refine cw_gf (v := .int i3_0) (pc1 := 73) rfl (by omega) (by omega) g3 rfl rfl ?_
          refine w_mv (pc1 := 74) (st1 := [.ref x75, .int i3_0]) rfl rfl rfl ?_
          refine cw_gf (v := .int i76_1) (pc1 := 77) rfl (by omega) (by omega) g76 rfl rfl ?_
          by_cases h83 : i3_0.toInt = i76_1.toInt
          ·
            replace hh := hh.2 h83
            refine w_ine_F (pc1 := 80) rfl (by decide) rfl (show i3_0.toInt = i76_1.toInt from h83) ?_
            refine w_mv (pc1 := 81) (st1 := [.ref y1]) rfl rfl rfl ?_
            refine cw_gf (v := .int i3_1) (pc1 := 84) rfl (by omega) (by omega) g3 rfl rfl ?_
            refine w_mv (pc1 := 85) (st1 := [.ref x75, .int i3_1]) rfl rfl rfl ?_
            refine cw_gf (v := .int i76_2) (pc1 := 88) rfl (by omega) (by omega) g76 rfl rfl ?_
            by_cases h84 : i3_1.toInt = i76_2.toInt
            ·
              replace hh := hh.2 h84
              refine w_ine_F (pc1 := 91) rfl (by decide) rfl (show i3_1.toInt = i76_2.toInt from h84) ?_
              refine w_mv (pc1 := 92) (st1 := [.ref y1]) rfl rfl rfl ?_
              refine cw_gf (v := .int i3_3) (pc1 := 95) rfl (by omega) (by omega) g3 rfl rfl ?_
              refine w_mv (pc1 := 96) (st1 := [.ref x75, .int i3_3]) rfl rfl rfl ?_
              refine cw_gf (v := .int i76_3) (pc1 := 99) rfl (by omega) (by omega) g76 rfl rfl ?_
              by_cases h85 : i3_3.toInt = i76_3.toInt
              ·
                replace hh := hh.1 h85
                refine w_ieq_T (pc1 := 104) rfl rfl (show i3_3.toInt = i76_3.toInt from h85) ?_
                refine w_mv (pc1 := 105) (st1 := [.int 0]) rfl rfl rfl ?_
                refine w_mv (pc1 := 107) (lv1 := [(4, .int 0), (3, .ref x75), (0, .ref 10), (1, .ref y1), (2, .ref y2)]) (st1 := []) rfl rfl rfl ?_
                refine w_mv (pc1 := 108) (st1 := [.int 0]) rfl rfl rfl ?_
                refine w_mv (pc1 := 110) (lv1 := [(5, .int 0), (4, .int 0), (3, .ref x75), (0, .ref 10), (1, .ref y1), (2, .ref y2)]) (st1 := []) rfl rfl rfl ?_
                refine w_wk (l1 := [(0, .ref 10), (1, .ref y1), (2, .ref y2), (3, .ref x75), (4, .int 0), (5, .int 0)]) rfl ⟨rfl, rfl, rfl, rfl, rfl, rfl, trivial⟩ ?_
                refine hh d _ _ P (fun r N1 G1 kc1 ks1 q => ?_)
                exact c_acc (hP r N1 G1 _ _ q) (by omega) (by omega)
              ·
                replace hh := hh.2 h85
                refine w_ieq_F (pc1 := 102) rfl (by decide) rfl (show i3_3.toInt ≠ i76_3.toInt from h85) ?_
                refine w_mv (pc1 := 103) (st1 := [.int 1]) rfl rfl rfl ?_
                refine sx_wp.stop rfl rfl rfl ?_
                exact c_acc (hP _ _ _ _ _ hh) (by omega) (by omega)
            ·
              replace hh := hh.1 h84
              refine w_ine_T (pc1 := 102) rfl rfl (show i3_1.toInt ≠ i76_2.toInt from h84) ?_
              refine w_mv (pc1 := 103) (st1 := [.int 1]) rfl rfl rfl ?_
              refine sx_wp.stop rfl rfl rfl ?_
              exact c_acc (hP _ _ _ _ _ hh) (by omega) (by omega)
          ·
            replace hh := hh.1 h83
            refine w_ine_T (pc1 := 102) rfl rfl (show i3_0.toInt ≠ i76_1.toInt from h83) ?_
            refine w_mv (pc1 := 103) (st1 := [.int 1]) rfl rfl rfl ?_
            refine sx_wp.stop rfl rfl rfl ?_
            exact c_acc (hP _ _ _ _ _ hh) (by omega) (by omega)
set_option maxRecDepth 20000 in
set_option maxHeartbeats 4000000 in
theorem k_73_110 {h : Nat} {y1 : Nat} {y2 : Nat} {y3 : Nat} {p4 : Int32} {p5 : Int32} {N : Nat} {G : Nat → sx_C} {K : Option Value ⊕ Nat → Nat → (Nat → sx_C) → Nat → Nat → Prop} (hh : 5 ≤ y1 ∧ y1 < N ∧ ∃ (i1_0 : Int32) (i1_1 : Int32) (i1_3 : Int32) (i1_4 : Int32), G y1 = .inr (.inl (7, [.int i1_0, .int i1_1, .ref (y1 + 1), .int i1_3, .int i1_4])) ∧ ((i1_3.toInt ≤ p5.toInt → K (.inl (some (.int p4))) (N) G (0) (0)) ∧ (p5.toInt < i1_3.toInt → ((p4.toInt ≠ 0 → K (.inl (some (.int p4))) (N) G (0) (0)) ∧ (p4.toInt = 0 → 5 ≤ y1 + 1 ∧ y1 + 1 < N ∧ ∃ (n4 : Nat) (f4 : Nat → Option Nat), G (y1 + 1) = .inl (8, (n4, .inr (.inr (.inr (.inr f4))))) ∧ 0 ≤ p5.toInt ∧ p5.toInt < (n4 : Nat) ∧ ∃ x6, f4 p5.toNatClampNeg = some x6 ∧ 5 ≤ y3 ∧ y3 < N ∧ ∃ (i7_1 : Int32) (i7_2 : Int32) (i7_3 : Int32) (o7_4 : Option Nat), G y3 = .inr (.inl (10, [.ref (y3 + 1), .int i7_1, .int i7_2, .int i7_3, va_rf o7_4])) ∧ 5 ≤ y3 + 1 ∧ y3 + 1 < N ∧ ∃ (f8 : Nat → Option Nat), G (y3 + 1) = .inl (6, (3, .inr (.inr (.inr (.inr f8))))) ∧ 0 ≤ p5.toInt ∧ p5.toInt < (3 : Nat) ∧ ∃ x10, f8 p5.toNatClampNeg = some x10 ∧ 10 < N ∧ ∃ (i11_3 : Int32) (o11_4 : Option Nat), G 10 = .inr (.inl (3, [.ref 11, .ref 13, .ref 16, .int i11_3, va_rf o11_4])) ∧ cT (h) sM_73 0 [(0, .ref 10), (1, .ref x6), (2, .ref x10)] [] (N) G (fun r12 N12 G12 kc12 ks12 => ∃ v12 : Int32, r12 = .inl (some (.int v12)) ∧ cT (h + 4) sM_73 110 [(0, .ref 10), (1, .ref y1), (2, .ref y2), (3, .ref y3), (4, .int v12), (5, .int (p5 + 1))] [] (N12) G12 (fun r N1 G1 kc1 ks1 => K r N1 G1 (kc12 + kc1) (ks12 + ks1)))))))) : cT (h + 4) sM_73 110 [(0, .ref 10), (1, .ref y1), (2, .ref y2), (3, .ref y3), (4, .int p4), (5, .int p5)] [] N G K := by
  intro d dc ds P hP
  show s_wp (d + h + 4) _ _ _ _ _ _ _ _
  refine w_mv (pc1 := 112) (st1 := [.int p5]) rfl rfl rfl ?_
  refine w_mv (pc1 := 113) (st1 := [.ref y1, .int p5]) rfl rfl rfl ?_
  obtain ⟨b1a, b1b, i1_0, i1_1, i1_3, i1_4, g1, hh⟩ := hh
  refine cw_gf (v := .int i1_3) (pc1 := 116) rfl (by omega) (by omega) g1 rfl rfl ?_
  by_cases h2 : i1_3.toInt ≤ p5.toInt
  ·
    replace hh := hh.1 h2
    refine w_ige_T (pc1 := 150) rfl rfl (show i1_3.toInt ≤ p5.toInt from h2) ?_
    refine w_mv (pc1 := 152) (st1 := [.int p4]) rfl rfl rfl ?_
    refine sx_wp.stop rfl rfl rfl ?_
    exact c_acc (hP _ _ _ _ _ hh) (by omega) (by omega)
  ·
    replace hh := hh.2 (Int.not_le.mp h2)
    refine w_ige_F (pc1 := 119) rfl (by decide) rfl (show p5.toInt < i1_3.toInt from (Int.not_le.mp h2)) ?_
    refine w_mv (pc1 := 121) (st1 := [.int p4]) rfl rfl rfl ?_
    by_cases h3 : p4.toInt = 0
    ·
      replace hh := hh.2 h3
      refine w_zne_F (pc1 := 124) rfl (by decide) rfl (show p4.toInt = 0 from h3) ?_
      refine w_mv (pc1 := 125) (st1 := [.ref 10]) rfl rfl rfl ?_
      refine w_mv (pc1 := 126) (st1 := [.ref y1, .ref 10]) rfl rfl rfl ?_
      refine cw_gf (v := .ref (y1 + 1)) (pc1 := 129) rfl (by omega) (by omega) g1 rfl rfl ?_
      refine w_mv (pc1 := 131) (st1 := [.int p5, .ref (y1 + 1), .ref 10]) rfl rfl rfl ?_
      obtain ⟨b4a, b4b, n4, f4, g4, hh⟩ := hh
      obtain ⟨q5a, q5b, hh⟩ := hh
      refine cw_ald (pc1 := 132) rfl (by omega) g4 rfl q5a q5b rfl ?_
      obtain ⟨x6, e6, hh⟩ := hh
      rw [e6]
      refine w_mv (pc1 := 133) (st1 := [.ref y3, .ref x6, .ref 10]) rfl rfl rfl ?_
      obtain ⟨b7a, b7b, i7_1, i7_2, i7_3, o7_4, g7, hh⟩ := hh
      refine cw_gf (v := .ref (y3 + 1)) (pc1 := 136) rfl (by omega) (by omega) g7 rfl rfl ?_
      refine w_mv (pc1 := 138) (st1 := [.int p5, .ref (y3 + 1), .ref x6, .ref 10]) rfl rfl rfl ?_
      obtain ⟨b8a, b8b, f8, g8, hh⟩ := hh
      obtain ⟨q9a, q9b, hh⟩ := hh
      refine cw_ald (pc1 := 139) rfl (by omega) g8 rfl q9a q9b rfl ?_
      obtain ⟨x10, e10, hh⟩ := hh
      rw [e10]
      obtain ⟨b11b, i11_3, o11_4, g11, hh⟩ := hh
      refine w_call (M' := sM_73) (vals := [.ref 10, .ref x6, .ref x10]) (rest := []) (lv' := [(0, .ref 10), (1, .ref x6), (2, .ref x10)]) rfl rfl rfl rfl rfl rfl (cH_rcv (by omega) (by omega) g11) rfl rfl rfl ?_
      refine c_dep (d1 := d + 3 + h) (by omega) (hh _ _ _ _ (fun r12 N12 G12 kc12 ks12 hh => ?_))
      obtain ⟨v12, er12, hh⟩ := hh
      subst er12
      refine w_ki (pc1 := 142) rfl ?_
      refine w_mv (pc1 := 144) (lv1 := [(4, .int v12), (0, .ref 10), (1, .ref y1), (2, .ref y2), (3, .ref y3), (5, .int p5)]) (st1 := []) rfl rfl rfl ?_
      refine w_mv (pc1 := 147) (lv1 := [(5, .int (p5 + 1)), (4, .int v12), (0, .ref 10), (1, .ref y1), (2, .ref y2), (3, .ref y3)]) (st1 := []) rfl rfl rfl ?_
      refine w_mv (pc1 := 110) (st1 := []) rfl rfl rfl ?_
      refine w_wk (l1 := [(0, .ref 10), (1, .ref y1), (2, .ref y2), (3, .ref y3), (4, .int v12), (5, .int (p5 + 1))]) rfl ⟨rfl, rfl, rfl, rfl, rfl, rfl, trivial⟩ ?_
      refine hh d _ _ P (fun r N1 G1 kc1 ks1 q => ?_)
      exact c_acc (hP r N1 G1 _ _ q) (by omega) (by omega)
    ·
      replace hh := hh.1 h3
      refine w_zne_T (pc1 := 150) rfl rfl (show p4.toInt ≠ 0 from h3) ?_
      refine w_mv (pc1 := 152) (st1 := [.int p4]) rfl rfl rfl ?_
      refine sx_wp.stop rfl rfl rfl ?_
      exact c_acc (hP _ _ _ _ _ hh) (by omega) (by omega)
set_option maxRecDepth 20000 in
set_option maxHeartbeats 4000000 in
theorem k_74_0 {x0 : Nat} {N : Nat} {G : Nat → sx_C} {K : Option Value ⊕ Nat → Nat → (Nat → sx_C) → Nat → Nat → Prop} (hh : cT (1) sM_74 4 [(0, .ref x0), (1, .ref x0), (2, .int 0)] [] (N) G (fun r N1 G1 kc1 ks1 => K r N1 G1 (kc1) (ks1))) : cT (1) sM_74 0 [(0, .ref x0)] [] N G K := by
  intro d dc ds P hP
  refine w_mv (pc1 := 1) (st1 := [.ref x0]) rfl rfl rfl ?_
  refine w_mv (pc1 := 2) (lv1 := [(1, .ref x0), (0, .ref x0)]) (st1 := []) rfl rfl rfl ?_
  refine w_mv (pc1 := 3) (st1 := [.int 0]) rfl rfl rfl ?_
  refine w_mv (pc1 := 4) (lv1 := [(2, .int 0), (1, .ref x0), (0, .ref x0)]) (st1 := []) rfl rfl rfl ?_
  refine w_wk (l1 := [(0, .ref x0), (1, .ref x0), (2, .int 0)]) rfl ⟨rfl, rfl, rfl, trivial⟩ ?_
  refine hh d _ _ P (fun r N1 G1 kc1 ks1 q => ?_)
  exact c_acc (hP r N1 G1 _ _ q) (by omega) (by omega)
set_option maxRecDepth 20000 in
set_option maxHeartbeats 4000000 in
theorem k_74_4 {y0 : Nat} {y1 : Nat} {p2 : Int32} {N : Nat} {G : Nat → sx_C} {K : Option Value ⊕ Nat → Nat → (Nat → sx_C) → Nat → Nat → Prop} (hh : ((1000000 ≤ p2.toInt → K (.inl (some (.ref y1))) (N) G (0) (0)) ∧ (p2.toInt < 1000000 → 5 ≤ y1 ∧ y1 < N ∧ ∃ (i2_1 : Int32) (i2_2 : Int32) (i2_3 : Int32) (o2_4 : Option Nat), G y1 = .inr (.inl (10, [.ref (y1 + 1), .int i2_1, .int i2_2, .int i2_3, va_rf o2_4])) ∧ ((o2_4 = none → K (.inl (some (.ref y1))) (N) G (0) (0)) ∧ (∀ x3, o2_4 = some x3 → cT (1) sM_74 4 [(0, .ref y0), (1, .ref x3), (2, .int (p2 + 1))] [] (N) G (fun r N1 G1 kc1 ks1 => K r N1 G1 (kc1) (ks1))))))) : cT (1) sM_74 4 [(0, .ref y0), (1, .ref y1), (2, .int p2)] [] N G K := by
  intro d dc ds P hP
  refine w_mv (pc1 := 5) (st1 := [.int p2]) rfl rfl rfl ?_
  refine w_mv (pc1 := 7) (st1 := [.int 1000000, .int p2]) rfl rfl rfl ?_
  by_cases h1 : 1000000 ≤ p2.toInt
  ·
    replace hh := hh.1 h1
    refine w_ige_T (pc1 := 28) rfl rfl (show 1000000 ≤ p2.toInt from h1) ?_
    refine w_mv (pc1 := 29) (st1 := [.ref y1]) rfl rfl rfl ?_
    refine sx_wp.stop rfl rfl rfl ?_
    exact c_acc (hP _ _ _ _ _ hh) (by omega) (by omega)
  ·
    replace hh := hh.2 (Int.not_le.mp h1)
    refine w_ige_F (pc1 := 10) rfl (by decide) rfl (show p2.toInt < 1000000 from (Int.not_le.mp h1)) ?_
    refine w_mv (pc1 := 11) (st1 := [.ref y1]) rfl rfl rfl ?_
    obtain ⟨b2a, b2b, i2_1, i2_2, i2_3, o2_4, g2, hh⟩ := hh
    refine cw_gf (v := va_rf o2_4) (pc1 := 14) rfl (by omega) (by omega) g2 rfl rfl ?_
    cases o2_4 with
    | none =>
      replace hh := hh.1 rfl
      refine w_mv (pc1 := 28) (st1 := []) rfl rfl rfl ?_
      refine w_mv (pc1 := 29) (st1 := [.ref y1]) rfl rfl rfl ?_
      refine sx_wp.stop rfl rfl rfl ?_
      exact c_acc (hP _ _ _ _ _ hh) (by omega) (by omega)
    | some x3 =>
      replace hh := hh.2 x3 rfl
      refine w_mv (pc1 := 17) (st1 := []) rfl rfl rfl ?_
      refine w_mv (pc1 := 18) (st1 := [.ref y1]) rfl rfl rfl ?_
      refine cw_gf (v := .ref x3) (pc1 := 21) rfl (by omega) (by omega) g2 rfl rfl ?_
      refine w_mv (pc1 := 22) (lv1 := [(1, .ref x3), (0, .ref y0), (2, .int p2)]) (st1 := []) rfl rfl rfl ?_
      refine w_mv (pc1 := 25) (lv1 := [(2, .int (p2 + 1)), (1, .ref x3), (0, .ref y0)]) (st1 := []) rfl rfl rfl ?_
      refine w_mv (pc1 := 4) (st1 := []) rfl rfl rfl ?_
      refine w_wk (l1 := [(0, .ref y0), (1, .ref x3), (2, .int (p2 + 1))]) rfl ⟨rfl, rfl, rfl, trivial⟩ ?_
      refine hh d _ _ P (fun r N1 G1 kc1 ks1 q => ?_)
      exact c_acc (hP r N1 G1 _ _ q) (by omega) (by omega)
set_option maxRecDepth 20000 in
set_option maxHeartbeats 4000000 in
theorem k_75_0 {y1 : Nat} {y2 : Nat} {N : Nat} {G : Nat → sx_C} {K : Option Value ⊕ Nat → Nat → (Nat → sx_C) → Nat → Nat → Prop} (hh : 10 < N ∧ ∃ (i1_3 : Int32) (o1_4 : Option Nat), G 10 = .inr (.inl (3, [.ref 11, .ref 13, .ref 16, .int i1_3, va_rf o1_4])) ∧ 13 < N ∧ ∃ (i2_2 : Int32) (i2_3 : Int32) (o2_4 : Option Nat) (o2_5 : Option Nat), G 13 = .inr (.inl (5, [.ref 14, .ref 15, .int i2_2, .int i2_3, va_rf o2_4, va_rf o2_5])) ∧ 14 < N ∧ ∃ (f7 : Nat → Option Nat), (va_up G 13 (.inr (.inl (5, [.ref 14, .ref 15, .int i2_2, .int i2_3, .ref y1, .ref y2])))) 14 = .inl (6, (121, .inr (.inr (.inr (.inr f7))))) ∧ 0 ≤ (0 : Int32).toInt ∧ (0 : Int32).toInt < (121 : Nat) ∧ 5 ≤ y1 ∧ y1 < N ∧ ∃ (i9_1 : Int32) (i9_2 : Int32) (i9_3 : Int32) (o9_4 : Option Nat), (va_up G 13 (.inr (.inl (5, [.ref 14, .ref 15, .int i2_2, .int i2_3, .ref y1, .ref y2])))) y1 = .inr (.inl (10, [.ref (y1 + 1), .int i9_1, .int i9_2, .int i9_3, va_rf o9_4])) ∧ 15 < N ∧ ∃ (f14 : Nat → Option Nat), (va_up (va_up G 13 (.inr (.inl (5, [.ref 14, .ref 15, .int i2_2, .int i2_3, .ref y1, .ref y2])))) 14 (.inl (6, (121, .inr (.inr (.inr (.inr (va_up f7 (0 : Int32).toNatClampNeg (some y1))))))))) 15 = .inl (6, (121, .inr (.inr (.inr (.inr f14))))) ∧ 0 ≤ (0 : Int32).toInt ∧ (0 : Int32).toInt < (121 : Nat) ∧ 5 ≤ y2 ∧ y2 < N ∧ ∃ (i16_1 : Int32) (i16_2 : Int32) (i16_3 : Int32) (o16_4 : Option Nat), (va_up (va_up G 13 (.inr (.inl (5, [.ref 14, .ref 15, .int i2_2, .int i2_3, .ref y1, .ref y2])))) 14 (.inl (6, (121, .inr (.inr (.inr (.inr (va_up f7 (0 : Int32).toNatClampNeg (some y1))))))))) y2 = .inr (.inl (10, [.ref (y2 + 1), .int i16_1, .int i16_2, .int i16_3, va_rf o16_4])) ∧ cT (2) sM_77 0 [(0, .ref 13)] [] (N) (va_up (va_up (va_up (va_up G 13 (.inr (.inl (5, [.ref 14, .ref 15, .int i2_2, .int i2_3, .ref y1, .ref y2])))) 14 (.inl (6, (121, .inr (.inr (.inr (.inr (va_up f7 (0 : Int32).toNatClampNeg (some y1))))))))) 15 (.inl (6, (121, .inr (.inr (.inr (.inr (va_up f14 (0 : Int32).toNatClampNeg (some y2))))))))) 13 (.inr (.inl (5, [.ref 14, .ref 15, .int 1, .int 0, .ref y1, .ref y2])))) (fun r35 N35 G35 kc35 ks35 => ∃ v35 : Int32, r35 = .inl (some (.int v35)) ∧ ((v35.toInt ≠ 2 → K (.inl (some (.int v35))) (N35) G35 (kc35) (ks35)) ∧ (v35.toInt = 2 → 10 < N35 ∧ ∃ (i37_3 : Int32) (o37_4 : Option Nat), G35 10 = .inr (.inl (3, [.ref 11, .ref 13, .ref 16, .int i37_3, va_rf o37_4])) ∧ 13 < N35 ∧ ∃ (i38_2 : Int32) (i38_3 : Int32) (o38_4 : Option Nat) (o38_5 : Option Nat), G35 13 = .inr (.inl (5, [.ref 14, .ref 15, .int i38_2, .int i38_3, va_rf o38_4, va_rf o38_5])) ∧ ((o38_4 = none → False) ∧ (∀ x39, o38_4 = some x39 → 5 ≤ x39 ∧ x39 < N35 ∧ ∃ (i40_1 : Int32) (i40_2 : Int32) (i40_3 : Int32) (o40_4 : Option Nat), G35 x39 = .inr (.inl (10, [.ref (x39 + 1), .int i40_1, .int i40_2, .int i40_3, va_rf o40_4])) ∧ ((i40_1.toInt ≠ 0 → ((o38_5 = none → K (.inl (some (.int 2))) (N35) (va_up G35 10 (.inr (.inl (3, [.ref 11, .ref 13, .ref 16, .int i37_3, .null])))) (kc35) (ks35)) ∧ (∀ x45, o38_5 = some x45 → K (.inl (some (.int 2))) (N35) (va_up G35 10 (.inr (.inl (3, [.ref 11, .ref 13, .ref 16, .int i37_3, .ref x45])))) (kc35) (ks35)))) ∧ (i40_1.toInt = 0 → K (.inl (some (.int 2))) (N35) (va_up G35 10 (.inr (.inl (3, [.ref 11, .ref 13, .ref 16, .int i37_3, .ref x39])))) (kc35) (ks35))))))))) : cT (3) sM_75 0 [(0, .ref 10), (1, .ref y1), (2, .ref y2)] [] N G K := by
  intro d dc ds P hP
  refine w_mv (pc1 := 1) (st1 := [.ref 10]) rfl rfl rfl ?_
  obtain ⟨b1b, i1_3, o1_4, g1, hh⟩ := hh
  refine cw_gf (v := .ref 13) (pc1 := 4) rfl (by omega) (by omega) g1 rfl rfl ?_
  refine w_mv (pc1 := 5) (st1 := [.ref y1, .ref 13]) rfl rfl rfl ?_
  refine w_mv (pc1 := 6) (st1 := [.ref y2, .ref y1, .ref 13]) rfl rfl rfl ?_
  obtain ⟨b2b, i2_2, i2_3, o2_4, o2_5, g2, hh⟩ := hh
  refine w_call (M' := sM_76) (vals := [.ref 13, .ref y1, .ref y2]) (rest := []) (lv' := [(0, .ref 13), (1, .ref y1), (2, .ref y2)]) rfl rfl rfl rfl rfl rfl (cH_rcv (by omega) (by omega) g2) rfl rfl rfl ?_
  refine w_mv (pc1 := 1) (st1 := [.ref 13]) rfl rfl rfl ?_
  refine w_mv (pc1 := 2) (st1 := [.ref y1, .ref 13]) rfl rfl rfl ?_
  refine cw_pf (c1 := .inr (.inl (5, [.ref 14, .ref 15, .int i2_2, .int i2_3, .ref y1, va_rf o2_5]))) (pc1 := 5) rfl (by omega) (by omega) g2 rfl rfl rfl rfl ?_
  have g3 : (va_up G 13 (.inr (.inl (5, [.ref 14, .ref 15, .int i2_2, .int i2_3, .ref y1, va_rf o2_5])))) 10 = .inr (.inl (3, [.ref 11, .ref 13, .ref 16, .int i1_3, va_rf o1_4])) := (va_ne (ne_ob g1 g2 (by decide))).trans g1
  have g4 : (va_up G 13 (.inr (.inl (5, [.ref 14, .ref 15, .int i2_2, .int i2_3, .ref y1, va_rf o2_5])))) 13 = .inr (.inl (5, [.ref 14, .ref 15, .int i2_2, .int i2_3, .ref y1, va_rf o2_5])) := up_eq
  refine w_mv (pc1 := 6) (st1 := [.ref 13]) rfl rfl rfl ?_
  refine w_mv (pc1 := 7) (st1 := [.ref y2, .ref 13]) rfl rfl rfl ?_
  refine cw_pf (c1 := .inr (.inl (5, [.ref 14, .ref 15, .int i2_2, .int i2_3, .ref y1, .ref y2]))) (pc1 := 10) rfl (by omega) (by omega) g4 rfl rfl rfl rfl ?_
  rw [va_uu]
  have g5 : (va_up G 13 (.inr (.inl (5, [.ref 14, .ref 15, .int i2_2, .int i2_3, .ref y1, .ref y2])))) 10 = .inr (.inl (3, [.ref 11, .ref 13, .ref 16, .int i1_3, va_rf o1_4])) := (va_ne (ne_ob g3 g4 (by decide))).trans ((va_ne (ne_ob g3 g4 (by decide))).symm.trans g3)
  have g6 : (va_up G 13 (.inr (.inl (5, [.ref 14, .ref 15, .int i2_2, .int i2_3, .ref y1, .ref y2])))) 13 = .inr (.inl (5, [.ref 14, .ref 15, .int i2_2, .int i2_3, .ref y1, .ref y2])) := up_eq
  refine w_mv (pc1 := 11) (st1 := [.ref 13]) rfl rfl rfl ?_
  refine cw_gf (v := .ref 14) (pc1 := 14) rfl (by omega) (by omega) g6 rfl rfl ?_
  refine w_mv (pc1 := 15) (st1 := [.int 0, .ref 14]) rfl rfl rfl ?_
  refine w_mv (pc1 := 16) (st1 := [.ref y1, .int 0, .ref 14]) rfl rfl rfl ?_
  obtain ⟨b7b, f7, g7, hh⟩ := hh
  obtain ⟨q8a, q8b, hh⟩ := hh
  obtain ⟨b9a, b9b, i9_1, i9_2, i9_3, o9_4, g9, hh⟩ := hh
  refine cw_as (pc1 := 17) rfl (by omega) (by omega) g7 (by omega) (by omega) g9 rfl q8a q8b rfl ?_
  have g10 : (va_up (va_up G 13 (.inr (.inl (5, [.ref 14, .ref 15, .int i2_2, .int i2_3, .ref y1, .ref y2])))) 14 (.inl (6, (121, .inr (.inr (.inr (.inr (va_up f7 (0 : Int32).toNatClampNeg (some y1))))))))) 10 = .inr (.inl (3, [.ref 11, .ref 13, .ref 16, .int i1_3, va_rf o1_4])) := (va_ne (ne_oa g5 g7)).trans g5
  have g11 : (va_up (va_up G 13 (.inr (.inl (5, [.ref 14, .ref 15, .int i2_2, .int i2_3, .ref y1, .ref y2])))) 14 (.inl (6, (121, .inr (.inr (.inr (.inr (va_up f7 (0 : Int32).toNatClampNeg (some y1))))))))) 13 = .inr (.inl (5, [.ref 14, .ref 15, .int i2_2, .int i2_3, .ref y1, .ref y2])) := (va_ne (ne_oa g6 g7)).trans g6
  have g12 : (va_up (va_up G 13 (.inr (.inl (5, [.ref 14, .ref 15, .int i2_2, .int i2_3, .ref y1, .ref y2])))) 14 (.inl (6, (121, .inr (.inr (.inr (.inr (va_up f7 (0 : Int32).toNatClampNeg (some y1))))))))) y1 = .inr (.inl (10, [.ref (y1 + 1), .int i9_1, .int i9_2, .int i9_3, va_rf o9_4])) := (va_ne (ne_oa g9 g7)).trans g9
  have g13 : (va_up (va_up G 13 (.inr (.inl (5, [.ref 14, .ref 15, .int i2_2, .int i2_3, .ref y1, .ref y2])))) 14 (.inl (6, (121, .inr (.inr (.inr (.inr (va_up f7 (0 : Int32).toNatClampNeg (some y1))))))))) 14 = .inl (6, (121, .inr (.inr (.inr (.inr (va_up f7 (0 : Int32).toNatClampNeg (some y1))))))) := up_eq
  refine w_mv (pc1 := 18) (st1 := [.ref 13]) rfl rfl rfl ?_
  refine cw_gf (v := .ref 15) (pc1 := 21) rfl (by omega) (by omega) g11 rfl rfl ?_
  refine w_mv (pc1 := 22) (st1 := [.int 0, .ref 15]) rfl rfl rfl ?_
  refine w_mv (pc1 := 23) (st1 := [.ref y2, .int 0, .ref 15]) rfl rfl rfl ?_
  obtain ⟨b14b, f14, g14, hh⟩ := hh
  obtain ⟨q15a, q15b, hh⟩ := hh
  obtain ⟨b16a, b16b, i16_1, i16_2, i16_3, o16_4, g16, hh⟩ := hh
  refine cw_as (pc1 := 24) rfl (by omega) (by omega) g14 (by omega) (by omega) g16 rfl q15a q15b rfl ?_
  have g17 : (va_up (va_up (va_up G 13 (.inr (.inl (5, [.ref 14, .ref 15, .int i2_2, .int i2_3, .ref y1, .ref y2])))) 14 (.inl (6, (121, .inr (.inr (.inr (.inr (va_up f7 (0 : Int32).toNatClampNeg (some y1))))))))) 15 (.inl (6, (121, .inr (.inr (.inr (.inr (va_up f14 (0 : Int32).toNatClampNeg (some y2))))))))) 10 = .inr (.inl (3, [.ref 11, .ref 13, .ref 16, .int i1_3, va_rf o1_4])) := (va_ne (ne_oa g10 g14)).trans g10
  have g18 : (va_up (va_up (va_up G 13 (.inr (.inl (5, [.ref 14, .ref 15, .int i2_2, .int i2_3, .ref y1, .ref y2])))) 14 (.inl (6, (121, .inr (.inr (.inr (.inr (va_up f7 (0 : Int32).toNatClampNeg (some y1))))))))) 15 (.inl (6, (121, .inr (.inr (.inr (.inr (va_up f14 (0 : Int32).toNatClampNeg (some y2))))))))) 13 = .inr (.inl (5, [.ref 14, .ref 15, .int i2_2, .int i2_3, .ref y1, .ref y2])) := (va_ne (ne_oa g11 g14)).trans g11
  have g19 : (va_up (va_up (va_up G 13 (.inr (.inl (5, [.ref 14, .ref 15, .int i2_2, .int i2_3, .ref y1, .ref y2])))) 14 (.inl (6, (121, .inr (.inr (.inr (.inr (va_up f7 (0 : Int32).toNatClampNeg (some y1))))))))) 15 (.inl (6, (121, .inr (.inr (.inr (.inr (va_up f14 (0 : Int32).toNatClampNeg (some y2))))))))) y1 = .inr (.inl (10, [.ref (y1 + 1), .int i9_1, .int i9_2, .int i9_3, va_rf o9_4])) := (va_ne (ne_oa g12 g14)).trans g12
  have g20 : (va_up (va_up (va_up G 13 (.inr (.inl (5, [.ref 14, .ref 15, .int i2_2, .int i2_3, .ref y1, .ref y2])))) 14 (.inl (6, (121, .inr (.inr (.inr (.inr (va_up f7 (0 : Int32).toNatClampNeg (some y1))))))))) 15 (.inl (6, (121, .inr (.inr (.inr (.inr (va_up f14 (0 : Int32).toNatClampNeg (some y2))))))))) 14 = .inl (6, (121, .inr (.inr (.inr (.inr (va_up f7 (0 : Int32).toNatClampNeg (some y1))))))) := (va_ne (by omega)).trans g13
  have g21 : (va_up (va_up (va_up G 13 (.inr (.inl (5, [.ref 14, .ref 15, .int i2_2, .int i2_3, .ref y1, .ref y2])))) 14 (.inl (6, (121, .inr (.inr (.inr (.inr (va_up f7 (0 : Int32).toNatClampNeg (some y1))))))))) 15 (.inl (6, (121, .inr (.inr (.inr (.inr (va_up f14 (0 : Int32).toNatClampNeg (some y2))))))))) y2 = .inr (.inl (10, [.ref (y2 + 1), .int i16_1, .int i16_2, .int i16_3, va_rf o16_4])) := (va_ne (ne_oa g16 g14)).trans g16
  have g22 : (va_up (va_up (va_up G 13 (.inr (.inl (5, [.ref 14, .ref 15, .int i2_2, .int i2_3, .ref y1, .ref y2])))) 14 (.inl (6, (121, .inr (.inr (.inr (.inr (va_up f7 (0 : Int32).toNatClampNeg (some y1))))))))) 15 (.inl (6, (121, .inr (.inr (.inr (.inr (va_up f14 (0 : Int32).toNatClampNeg (some y2))))))))) 15 = .inl (6, (121, .inr (.inr (.inr (.inr (va_up f14 (0 : Int32).toNatClampNeg (some y2))))))) := up_eq
  refine w_mv (pc1 := 25) (st1 := [.ref 13]) rfl rfl rfl ?_
  refine w_mv (pc1 := 26) (st1 := [.int 1, .ref 13]) rfl rfl rfl ?_
  refine cw_pf (c1 := .inr (.inl (5, [.ref 14, .ref 15, .int 1, .int i2_3, .ref y1, .ref y2]))) (pc1 := 29) rfl (by omega) (by omega) g18 rfl rfl rfl rfl ?_
  have g23 : (va_up (va_up (va_up (va_up G 13 (.inr (.inl (5, [.ref 14, .ref 15, .int i2_2, .int i2_3, .ref y1, .ref y2])))) 14 (.inl (6, (121, .inr (.inr (.inr (.inr (va_up f7 (0 : Int32).toNatClampNeg (some y1))))))))) 15 (.inl (6, (121, .inr (.inr (.inr (.inr (va_up f14 (0 : Int32).toNatClampNeg (some y2))))))))) 13 (.inr (.inl (5, [.ref 14, .ref 15, .int 1, .int i2_3, .ref y1, .ref y2])))) 10 = .inr (.inl (3, [.ref 11, .ref 13, .ref 16, .int i1_3, va_rf o1_4])) := (va_ne (ne_ob g17 g18 (by decide))).trans g17
  have g24 : (va_up (va_up (va_up (va_up G 13 (.inr (.inl (5, [.ref 14, .ref 15, .int i2_2, .int i2_3, .ref y1, .ref y2])))) 14 (.inl (6, (121, .inr (.inr (.inr (.inr (va_up f7 (0 : Int32).toNatClampNeg (some y1))))))))) 15 (.inl (6, (121, .inr (.inr (.inr (.inr (va_up f14 (0 : Int32).toNatClampNeg (some y2))))))))) 13 (.inr (.inl (5, [.ref 14, .ref 15, .int 1, .int i2_3, .ref y1, .ref y2])))) y1 = .inr (.inl (10, [.ref (y1 + 1), .int i9_1, .int i9_2, .int i9_3, va_rf o9_4])) := (va_ne (ne_ob g19 g18 (by decide))).trans g19
  have g25 : (va_up (va_up (va_up (va_up G 13 (.inr (.inl (5, [.ref 14, .ref 15, .int i2_2, .int i2_3, .ref y1, .ref y2])))) 14 (.inl (6, (121, .inr (.inr (.inr (.inr (va_up f7 (0 : Int32).toNatClampNeg (some y1))))))))) 15 (.inl (6, (121, .inr (.inr (.inr (.inr (va_up f14 (0 : Int32).toNatClampNeg (some y2))))))))) 13 (.inr (.inl (5, [.ref 14, .ref 15, .int 1, .int i2_3, .ref y1, .ref y2])))) 14 = .inl (6, (121, .inr (.inr (.inr (.inr (va_up f7 (0 : Int32).toNatClampNeg (some y1))))))) := (va_ne (ne_ao g20 g18)).trans g20
  have g26 : (va_up (va_up (va_up (va_up G 13 (.inr (.inl (5, [.ref 14, .ref 15, .int i2_2, .int i2_3, .ref y1, .ref y2])))) 14 (.inl (6, (121, .inr (.inr (.inr (.inr (va_up f7 (0 : Int32).toNatClampNeg (some y1))))))))) 15 (.inl (6, (121, .inr (.inr (.inr (.inr (va_up f14 (0 : Int32).toNatClampNeg (some y2))))))))) 13 (.inr (.inl (5, [.ref 14, .ref 15, .int 1, .int i2_3, .ref y1, .ref y2])))) y2 = .inr (.inl (10, [.ref (y2 + 1), .int i16_1, .int i16_2, .int i16_3, va_rf o16_4])) := (va_ne (ne_ob g21 g18 (by decide))).trans g21
  have g27 : (va_up (va_up (va_up (va_up G 13 (.inr (.inl (5, [.ref 14, .ref 15, .int i2_2, .int i2_3, .ref y1, .ref y2])))) 14 (.inl (6, (121, .inr (.inr (.inr (.inr (va_up f7 (0 : Int32).toNatClampNeg (some y1))))))))) 15 (.inl (6, (121, .inr (.inr (.inr (.inr (va_up f14 (0 : Int32).toNatClampNeg (some y2))))))))) 13 (.inr (.inl (5, [.ref 14, .ref 15, .int 1, .int i2_3, .ref y1, .ref y2])))) 15 = .inl (6, (121, .inr (.inr (.inr (.inr (va_up f14 (0 : Int32).toNatClampNeg (some y2))))))) := (va_ne (ne_ao g22 g18)).trans g22
  have g28 : (va_up (va_up (va_up (va_up G 13 (.inr (.inl (5, [.ref 14, .ref 15, .int i2_2, .int i2_3, .ref y1, .ref y2])))) 14 (.inl (6, (121, .inr (.inr (.inr (.inr (va_up f7 (0 : Int32).toNatClampNeg (some y1))))))))) 15 (.inl (6, (121, .inr (.inr (.inr (.inr (va_up f14 (0 : Int32).toNatClampNeg (some y2))))))))) 13 (.inr (.inl (5, [.ref 14, .ref 15, .int 1, .int i2_3, .ref y1, .ref y2])))) 13 = .inr (.inl (5, [.ref 14, .ref 15, .int 1, .int i2_3, .ref y1, .ref y2])) := up_eq
  refine w_mv (pc1 := 30) (st1 := [.ref 13]) rfl rfl rfl ?_
  refine w_mv (pc1 := 31) (st1 := [.int 0, .ref 13]) rfl rfl rfl ?_
  refine cw_pf (c1 := .inr (.inl (5, [.ref 14, .ref 15, .int 1, .int 0, .ref y1, .ref y2]))) (pc1 := 34) rfl (by omega) (by omega) g28 rfl rfl rfl rfl ?_
  rw [va_uu]
  have g29 : (va_up (va_up (va_up (va_up G 13 (.inr (.inl (5, [.ref 14, .ref 15, .int i2_2, .int i2_3, .ref y1, .ref y2])))) 14 (.inl (6, (121, .inr (.inr (.inr (.inr (va_up f7 (0 : Int32).toNatClampNeg (some y1))))))))) 15 (.inl (6, (121, .inr (.inr (.inr (.inr (va_up f14 (0 : Int32).toNatClampNeg (some y2))))))))) 13 (.inr (.inl (5, [.ref 14, .ref 15, .int 1, .int 0, .ref y1, .ref y2])))) 10 = .inr (.inl (3, [.ref 11, .ref 13, .ref 16, .int i1_3, va_rf o1_4])) := (va_ne (ne_ob g23 g28 (by decide))).trans ((va_ne (ne_ob g23 g28 (by decide))).symm.trans g23)
  have g30 : (va_up (va_up (va_up (va_up G 13 (.inr (.inl (5, [.ref 14, .ref 15, .int i2_2, .int i2_3, .ref y1, .ref y2])))) 14 (.inl (6, (121, .inr (.inr (.inr (.inr (va_up f7 (0 : Int32).toNatClampNeg (some y1))))))))) 15 (.inl (6, (121, .inr (.inr (.inr (.inr (va_up f14 (0 : Int32).toNatClampNeg (some y2))))))))) 13 (.inr (.inl (5, [.ref 14, .ref 15, .int 1, .int 0, .ref y1, .ref y2])))) y1 = .inr (.inl (10, [.ref (y1 + 1), .int i9_1, .int i9_2, .int i9_3, va_rf o9_4])) := (va_ne (ne_ob g24 g28 (by decide))).trans ((va_ne (ne_ob g24 g28 (by decide))).symm.trans g24)
  have g31 : (va_up (va_up (va_up (va_up G 13 (.inr (.inl (5, [.ref 14, .ref 15, .int i2_2, .int i2_3, .ref y1, .ref y2])))) 14 (.inl (6, (121, .inr (.inr (.inr (.inr (va_up f7 (0 : Int32).toNatClampNeg (some y1))))))))) 15 (.inl (6, (121, .inr (.inr (.inr (.inr (va_up f14 (0 : Int32).toNatClampNeg (some y2))))))))) 13 (.inr (.inl (5, [.ref 14, .ref 15, .int 1, .int 0, .ref y1, .ref y2])))) 14 = .inl (6, (121, .inr (.inr (.inr (.inr (va_up f7 (0 : Int32).toNatClampNeg (some y1))))))) := (va_ne (ne_ao g25 g28)).trans ((va_ne (ne_ao g25 g28)).symm.trans g25)
  have g32 : (va_up (va_up (va_up (va_up G 13 (.inr (.inl (5, [.ref 14, .ref 15, .int i2_2, .int i2_3, .ref y1, .ref y2])))) 14 (.inl (6, (121, .inr (.inr (.inr (.inr (va_up f7 (0 : Int32).toNatClampNeg (some y1))))))))) 15 (.inl (6, (121, .inr (.inr (.inr (.inr (va_up f14 (0 : Int32).toNatClampNeg (some y2))))))))) 13 (.inr (.inl (5, [.ref 14, .ref 15, .int 1, .int 0, .ref y1, .ref y2])))) y2 = .inr (.inl (10, [.ref (y2 + 1), .int i16_1, .int i16_2, .int i16_3, va_rf o16_4])) := (va_ne (ne_ob g26 g28 (by decide))).trans ((va_ne (ne_ob g26 g28 (by decide))).symm.trans g26)
  have g33 : (va_up (va_up (va_up (va_up G 13 (.inr (.inl (5, [.ref 14, .ref 15, .int i2_2, .int i2_3, .ref y1, .ref y2])))) 14 (.inl (6, (121, .inr (.inr (.inr (.inr (va_up f7 (0 : Int32).toNatClampNeg (some y1))))))))) 15 (.inl (6, (121, .inr (.inr (.inr (.inr (va_up f14 (0 : Int32).toNatClampNeg (some y2))))))))) 13 (.inr (.inl (5, [.ref 14, .ref 15, .int 1, .int 0, .ref y1, .ref y2])))) 15 = .inl (6, (121, .inr (.inr (.inr (.inr (va_up f14 (0 : Int32).toNatClampNeg (some y2))))))) := (va_ne (ne_ao g27 g28)).trans ((va_ne (ne_ao g27 g28)).symm.trans g27)
  have g34 : (va_up (va_up (va_up (va_up G 13 (.inr (.inl (5, [.ref 14, .ref 15, .int i2_2, .int i2_3, .ref y1, .ref y2])))) 14 (.inl (6, (121, .inr (.inr (.inr (.inr (va_up f7 (0 : Int32).toNatClampNeg (some y1))))))))) 15 (.inl (6, (121, .inr (.inr (.inr (.inr (va_up f14 (0 : Int32).toNatClampNeg (some y2))))))))) 13 (.inr (.inl (5, [.ref 14, .ref 15, .int 1, .int 0, .ref y1, .ref y2])))) 13 = .inr (.inl (5, [.ref 14, .ref 15, .int 1, .int 0, .ref y1, .ref y2])) := up_eq
  refine w_vret (pc1 := 9) rfl rfl rfl ?_
  refine w_mv (pc1 := 10) (st1 := [.ref 10]) rfl rfl rfl ?_
  refine cw_gf (v := .ref 13) (pc1 := 13) rfl (by omega) (by omega) g29 rfl rfl ?_
  refine w_call (M' := sM_77) (vals := [.ref 13]) (rest := []) (lv' := [(0, .ref 13)]) rfl rfl rfl rfl rfl rfl (cH_rcv (by omega) (by omega) g34) rfl rfl rfl ?_
  refine hh _ _ _ _ (fun r35 N35 G35 kc35 ks35 hh => ?_)
  obtain ⟨v35, er35, hh⟩ := hh
  subst er35
  refine w_ki (pc1 := 16) rfl ?_
  refine w_mv (pc1 := 17) (lv1 := [(3, .int v35), (0, .ref 10), (1, .ref y1), (2, .ref y2)]) (st1 := []) rfl rfl rfl ?_
  refine w_mv (pc1 := 18) (st1 := [.int v35]) rfl rfl rfl ?_
  refine w_mv (pc1 := 19) (st1 := [.int 2, .int v35]) rfl rfl rfl ?_
  by_cases h36 : v35.toInt = 2
  ·
    replace hh := hh.2 h36
    refine w_ine_F (pc1 := 22) rfl (by decide) rfl (show v35.toInt = 2 from h36) ?_
    refine w_mv (pc1 := 23) (st1 := [.ref 10]) rfl rfl rfl ?_
    refine w_mv (pc1 := 24) (st1 := [.ref 10, .ref 10]) rfl rfl rfl ?_
    obtain ⟨b37b, i37_3, o37_4, g37, hh⟩ := hh
    refine cw_gf (v := .ref 13) (pc1 := 27) rfl (by omega) (by omega) g37 rfl rfl ?_
    obtain ⟨b38b, i38_2, i38_3, o38_4, o38_5, g38, hh⟩ := hh
    refine w_call (M' := sM_80) (vals := [.ref 13]) (rest := [.ref 10]) (lv' := [(0, .ref 13)]) rfl rfl rfl rfl rfl rfl (cH_rcv (by omega) (by omega) g38) rfl rfl rfl ?_
    refine w_mv (pc1 := 1) (st1 := [.ref 13]) rfl rfl rfl ?_
    refine cw_gf (v := va_rf o38_4) (pc1 := 4) rfl (by omega) (by omega) g38 rfl rfl ?_
    cases o38_4 with
    | none =>
      replace hh := hh.1 rfl
      exact hh.elim
    | some x39 =>
      replace hh := hh.2 x39 rfl
      obtain ⟨b40a, b40b, i40_1, i40_2, i40_3, o40_4, g40, hh⟩ := hh
      refine cw_gf (v := .int i40_1) (pc1 := 7) rfl (by omega) (by omega) g40 rfl rfl ?_
      by_cases h41 : i40_1.toInt = 0
      ·
        replace hh := hh.2 h41
        refine w_zne_F (pc1 := 10) rfl (by decide) rfl (show i40_1.toInt = 0 from h41) ?_
        refine w_mv (pc1 := 11) (st1 := [.ref 13]) rfl rfl rfl ?_
        refine cw_gf (v := .ref x39) (pc1 := 14) rfl (by omega) (by omega) g38 rfl rfl ?_
        refine w_mv (pc1 := 21) (st1 := [.ref x39]) rfl rfl rfl ?_
        refine w_aret (pc1 := 30) rfl rfl rfl rfl ?_
        refine w_call (M' := sM_81) (vals := [.ref 10, .ref x39]) (rest := []) (lv' := [(0, .ref 10), (1, .ref x39)]) rfl rfl rfl rfl rfl rfl (cH_rcv (by omega) (by omega) g37) rfl rfl rfl ?_
        refine w_mv (pc1 := 1) (st1 := [.ref 10]) rfl rfl rfl ?_
        refine w_mv (pc1 := 2) (st1 := [.ref x39, .ref 10]) rfl rfl rfl ?_
        refine cw_pf (c1 := .inr (.inl (3, [.ref 11, .ref 13, .ref 16, .int i37_3, .ref x39]))) (pc1 := 5) rfl (by omega) (by omega) g37 rfl rfl rfl rfl ?_
        have g42 : (va_up G35 10 (.inr (.inl (3, [.ref 11, .ref 13, .ref 16, .int i37_3, .ref x39])))) 13 = .inr (.inl (5, [.ref 14, .ref 15, .int i38_2, .int i38_3, .ref x39, va_rf o38_5])) := (va_ne (ne_ob g38 g37 (by decide))).trans g38
        have g43 : (va_up G35 10 (.inr (.inl (3, [.ref 11, .ref 13, .ref 16, .int i37_3, .ref x39])))) x39 = .inr (.inl (10, [.ref (x39 + 1), .int i40_1, .int i40_2, .int i40_3, va_rf o40_4])) := (va_ne (ne_ob g40 g37 (by decide))).trans g40
        have g44 : (va_up G35 10 (.inr (.inl (3, [.ref 11, .ref 13, .ref 16, .int i37_3, .ref x39])))) 10 = .inr (.inl (3, [.ref 11, .ref 13, .ref 16, .int i37_3, .ref x39])) := up_eq
        refine w_mv (pc1 := 6) (st1 := [.int 2]) rfl rfl rfl ?_
        refine w_iret (pc1 := 33) rfl rfl rfl rfl ?_
        refine w_mv (pc1 := 37) (st1 := [.int 2]) rfl rfl rfl ?_
        refine sx_wp.stop rfl rfl rfl ?_
        exact c_acc (hP _ _ _ _ _ hh) (by omega) (by omega)
      ·
        replace hh := hh.1 h41
        refine w_zne_T (pc1 := 17) rfl rfl (show i40_1.toInt ≠ 0 from h41) ?_
        refine w_mv (pc1 := 18) (st1 := [.ref 13]) rfl rfl rfl ?_
        refine cw_gf (v := va_rf o38_5) (pc1 := 21) rfl (by omega) (by omega) g38 rfl rfl ?_
        cases o38_5 with
        | none =>
          replace hh := hh.1 rfl
          refine w_nret (pc1 := 30) rfl rfl rfl rfl ?_
          refine w_call (M' := sM_81) (vals := [.ref 10, .null]) (rest := []) (lv' := [(0, .ref 10), (1, .null)]) rfl rfl rfl rfl rfl rfl (cH_rcv (by omega) (by omega) g37) rfl rfl rfl ?_
          refine w_mv (pc1 := 1) (st1 := [.ref 10]) rfl rfl rfl ?_
          refine w_mv (pc1 := 2) (st1 := [.null, .ref 10]) rfl rfl rfl ?_
          refine cw_pf (c1 := .inr (.inl (3, [.ref 11, .ref 13, .ref 16, .int i37_3, .null]))) (pc1 := 5) rfl (by omega) (by omega) g37 rfl rfl rfl rfl ?_
          have g46 : (va_up G35 10 (.inr (.inl (3, [.ref 11, .ref 13, .ref 16, .int i37_3, .null])))) 13 = .inr (.inl (5, [.ref 14, .ref 15, .int i38_2, .int i38_3, .ref x39, .null])) := (va_ne (ne_ob g38 g37 (by decide))).trans g38
          have g47 : (va_up G35 10 (.inr (.inl (3, [.ref 11, .ref 13, .ref 16, .int i37_3, .null])))) x39 = .inr (.inl (10, [.ref (x39 + 1), .int i40_1, .int i40_2, .int i40_3, va_rf o40_4])) := (va_ne (ne_ob g40 g37 (by decide))).trans g40
          have g48 : (va_up G35 10 (.inr (.inl (3, [.ref 11, .ref 13, .ref 16, .int i37_3, .null])))) 10 = .inr (.inl (3, [.ref 11, .ref 13, .ref 16, .int i37_3, .null])) := up_eq
          refine w_mv (pc1 := 6) (st1 := [.int 2]) rfl rfl rfl ?_
          refine w_iret (pc1 := 33) rfl rfl rfl rfl ?_
          refine w_mv (pc1 := 37) (st1 := [.int 2]) rfl rfl rfl ?_
          refine sx_wp.stop rfl rfl rfl ?_
          exact c_acc (hP _ _ _ _ _ hh) (by omega) (by omega)
        | some x45 =>
          replace hh := hh.2 x45 rfl
          refine w_aret (pc1 := 30) rfl rfl rfl rfl ?_
          refine w_call (M' := sM_81) (vals := [.ref 10, .ref x45]) (rest := []) (lv' := [(0, .ref 10), (1, .ref x45)]) rfl rfl rfl rfl rfl rfl (cH_rcv (by omega) (by omega) g37) rfl rfl rfl ?_
          refine w_mv (pc1 := 1) (st1 := [.ref 10]) rfl rfl rfl ?_
          refine w_mv (pc1 := 2) (st1 := [.ref x45, .ref 10]) rfl rfl rfl ?_
          refine cw_pf (c1 := .inr (.inl (3, [.ref 11, .ref 13, .ref 16, .int i37_3, .ref x45]))) (pc1 := 5) rfl (by omega) (by omega) g37 rfl rfl rfl rfl ?_
          have g49 : (va_up G35 10 (.inr (.inl (3, [.ref 11, .ref 13, .ref 16, .int i37_3, .ref x45])))) 13 = .inr (.inl (5, [.ref 14, .ref 15, .int i38_2, .int i38_3, .ref x39, .ref x45])) := (va_ne (ne_ob g38 g37 (by decide))).trans g38
          have g50 : (va_up G35 10 (.inr (.inl (3, [.ref 11, .ref 13, .ref 16, .int i37_3, .ref x45])))) x39 = .inr (.inl (10, [.ref (x39 + 1), .int i40_1, .int i40_2, .int i40_3, va_rf o40_4])) := (va_ne (ne_ob g40 g37 (by decide))).trans g40
          have g51 : (va_up G35 10 (.inr (.inl (3, [.ref 11, .ref 13, .ref 16, .int i37_3, .ref x45])))) 10 = .inr (.inl (3, [.ref 11, .ref 13, .ref 16, .int i37_3, .ref x45])) := up_eq
          refine w_mv (pc1 := 6) (st1 := [.int 2]) rfl rfl rfl ?_
          refine w_iret (pc1 := 33) rfl rfl rfl rfl ?_
          refine w_mv (pc1 := 37) (st1 := [.int 2]) rfl rfl rfl ?_
          refine sx_wp.stop rfl rfl rfl ?_
          exact c_acc (hP _ _ _ _ _ hh) (by omega) (by omega)
  ·
    replace hh := hh.1 h36
    refine w_ine_T (pc1 := 36) rfl rfl (show v35.toInt ≠ 2 from h36) ?_
    refine w_mv (pc1 := 37) (st1 := [.int v35]) rfl rfl rfl ?_
    refine sx_wp.stop rfl rfl rfl ?_
    exact c_acc (hP _ _ _ _ _ hh) (by omega) (by omega)
set_option maxRecDepth 20000 in
set_option maxHeartbeats 4000000 in
theorem k_77_0  {N : Nat} {G : Nat → sx_C} {K : Option Value ⊕ Nat → Nat → (Nat → sx_C) → Nat → Nat → Prop} (hh : 13 < N ∧ ∃ (i1_2 : Int32) (i1_3 : Int32) (o1_4 : Option Nat) (o1_5 : Option Nat), G 13 = .inr (.inl (5, [.ref 14, .ref 15, .int i1_2, .int i1_3, va_rf o1_4, va_rf o1_5])) ∧ ((i1_2.toInt ≤ 0 → ((i1_2.toInt ≤ 0 → K (.inl (some (.int 0))) (N) G (0) (0)) ∧ (0 < i1_2.toInt → K (.inl (some (.int 3))) (N) G (0) (0)))) ∧ (0 < i1_2.toInt → ((60 ≤ i1_3.toInt → ((i1_2.toInt ≤ 0 → K (.inl (some (.int 0))) (N) G (0) (0)) ∧ (0 < i1_2.toInt → K (.inl (some (.int 3))) (N) G (0) (0)))) ∧ (i1_3.toInt < 60 → 14 < N ∧ ∃ (f8 : Nat → Option Nat), (va_up G 13 (.inr (.inl (5, [.ref 14, .ref 15, .int (i1_2 - 1), .int (i1_3 + 1), va_rf o1_4, va_rf o1_5])))) 14 = .inl (6, (121, .inr (.inr (.inr (.inr f8))))) ∧ 0 ≤ (i1_2 - 1).toInt ∧ (i1_2 - 1).toInt < (121 : Nat) ∧ ∃ x10, f8 (i1_2 - 1).toNatClampNeg = some x10 ∧ 5 ≤ x10 ∧ x10 < N ∧ ∃ (i11_1 : Int32) (i11_2 : Int32) (i11_3 : Int32) (o11_4 : Option Nat), (va_up G 13 (.inr (.inl (5, [.ref 14, .ref 15, .int (i1_2 - 1), .int (i1_3 + 1), va_rf o1_4, va_rf o1_5])))) x10 = .inr (.inl (10, [.ref (x10 + 1), .int i11_1, .int i11_2, .int i11_3, va_rf o11_4])) ∧ cT (1) sM_74 0 [(0, .ref x10)] [] (N) (va_up G 13 (.inr (.inl (5, [.ref 14, .ref 15, .int (i1_2 - 1), .int (i1_3 + 1), va_rf o1_4, va_rf o1_5])))) (fun r12 N12 G12 kc12 ks12 => N = N12 ∧ va_up G 13 (.inr (.inl (5, [.ref 14, .ref 15, .int (i1_2 - 1), .int (i1_3 + 1), va_rf o1_4, va_rf o1_5]))) = G12 ∧ 0 = kc12 ∧ 0 = ks12 ∧ ∃ o12 : Option Nat, r12 = .inl (some (va_rf o12)) ∧ 15 < N ∧ ∃ (f16 : Nat → Option Nat), (va_up G 13 (.inr (.inl (5, [.ref 14, .ref 15, .int (i1_2 - 1), .int (i1_3 + 1), va_rf o12, va_rf o1_5])))) 15 = .inl (6, (121, .inr (.inr (.inr (.inr f16))))) ∧ 0 ≤ (i1_2 - 1).toInt ∧ (i1_2 - 1).toInt < (121 : Nat) ∧ ∃ x18, f16 (i1_2 - 1).toNatClampNeg = some x18 ∧ 5 ≤ x18 ∧ x18 < N ∧ ∃ (i19_1 : Int32) (i19_2 : Int32) (i19_3 : Int32) (o19_4 : Option Nat), (va_up G 13 (.inr (.inl (5, [.ref 14, .ref 15, .int (i1_2 - 1), .int (i1_3 + 1), va_rf o12, va_rf o1_5])))) x18 = .inr (.inl (10, [.ref (x18 + 1), .int i19_1, .int i19_2, .int i19_3, va_rf o19_4])) ∧ cT (1) sM_74 0 [(0, .ref x18)] [] (N) (va_up G 13 (.inr (.inl (5, [.ref 14, .ref 15, .int (i1_2 - 1), .int (i1_3 + 1), va_rf o12, va_rf o1_5])))) (fun r20 N20 G20 kc20 ks20 => N = N20 ∧ va_up G 13 (.inr (.inl (5, [.ref 14, .ref 15, .int (i1_2 - 1), .int (i1_3 + 1), va_rf o12, va_rf o1_5]))) = G20 ∧ 0 = kc20 ∧ 0 = ks20 ∧ ∃ o20 : Option Nat, r20 = .inl (some (va_rf o20)) ∧ cT (2) sM_77 68 [(0, .ref 13)] [] (N) (va_up G 13 (.inr (.inl (5, [.ref 14, .ref 15, .int (i1_2 - 1), .int (i1_3 + 1), va_rf o12, va_rf o20])))) (fun r N1 G1 kc1 ks1 => K r N1 G1 (kc1) (ks1))))))))) : cT (2) sM_77 0 [(0, .ref 13)] [] N G K := by
  intro d dc ds P hP
  refine w_mv (pc1 := 1) (st1 := [.ref 13]) rfl rfl rfl ?_
  obtain ⟨b1b, i1_2, i1_3, o1_4, o1_5, g1, hh⟩ := hh
  refine cw_gf (v := .int i1_2) (pc1 := 4) rfl (by omega) (by omega) g1 rfl rfl ?_
  by_cases h2 : i1_2.toInt ≤ 0
  ·
    replace hh := hh.1 h2
    refine w_zle_T (pc1 := 117) rfl rfl (show i1_2.toInt ≤ 0 from h2) ?_
    refine w_mv (pc1 := 118) (st1 := [.ref 13]) rfl rfl rfl ?_
    refine cw_gf (v := .int i1_2) (pc1 := 121) rfl (by omega) (by omega) g1 rfl rfl ?_
    by_cases h3 : i1_2.toInt ≤ 0
    ·
      replace hh := hh.1 h3
      refine w_zle_T (pc1 := 128) rfl rfl (show i1_2.toInt ≤ 0 from h3) ?_
      refine w_mv (pc1 := 129) (st1 := [.int 0]) rfl rfl rfl ?_
      refine sx_wp.stop rfl rfl rfl ?_
      exact c_acc (hP _ _ _ _ _ hh) (by omega) (by omega)
    ·
      replace hh := hh.2 (Int.not_le.mp h3)
      refine w_zle_F (pc1 := 124) rfl (by decide) rfl (show 0 < i1_2.toInt from (Int.not_le.mp h3)) ?_
      refine w_mv (pc1 := 125) (st1 := [.int 3]) rfl rfl rfl ?_
      refine w_mv (pc1 := 129) (st1 := [.int 3]) rfl rfl rfl ?_
      refine sx_wp.stop rfl rfl rfl ?_
      exact c_acc (hP _ _ _ _ _ hh) (by omega) (by omega)
  ·
    replace hh := hh.2 (Int.not_le.mp h2)
    refine w_zle_F (pc1 := 7) rfl (by decide) rfl (show 0 < i1_2.toInt from (Int.not_le.mp h2)) ?_
    refine w_mv (pc1 := 8) (st1 := [.ref 13]) rfl rfl rfl ?_
    refine cw_gf (v := .int i1_3) (pc1 := 11) rfl (by omega) (by omega) g1 rfl rfl ?_
    refine w_mv (pc1 := 13) (st1 := [.int 60, .int i1_3]) rfl rfl rfl ?_
    by_cases h4 : 60 ≤ i1_3.toInt
    ·
      replace hh := hh.1 h4
      refine w_ige_T (pc1 := 117) rfl rfl (show 60 ≤ i1_3.toInt from h4) ?_
      refine w_mv (pc1 := 118) (st1 := [.ref 13]) rfl rfl rfl ?_
      refine cw_gf (v := .int i1_2) (pc1 := 121) rfl (by omega) (by omega) g1 rfl rfl ?_
      by_cases h5 : i1_2.toInt ≤ 0
      ·
        replace hh := hh.1 h5
        refine w_zle_T (pc1 := 128) rfl rfl (show i1_2.toInt ≤ 0 from h5) ?_
        refine w_mv (pc1 := 129) (st1 := [.int 0]) rfl rfl rfl ?_
        refine sx_wp.stop rfl rfl rfl ?_
        exact c_acc (hP _ _ _ _ _ hh) (by omega) (by omega)
      ·
        replace hh := hh.2 (Int.not_le.mp h5)
        refine w_zle_F (pc1 := 124) rfl (by decide) rfl (show 0 < i1_2.toInt from (Int.not_le.mp h5)) ?_
        refine w_mv (pc1 := 125) (st1 := [.int 3]) rfl rfl rfl ?_
        refine w_mv (pc1 := 129) (st1 := [.int 3]) rfl rfl rfl ?_
        refine sx_wp.stop rfl rfl rfl ?_
        exact c_acc (hP _ _ _ _ _ hh) (by omega) (by omega)
    ·
      replace hh := hh.2 (Int.not_le.mp h4)
      refine w_ige_F (pc1 := 16) rfl (by decide) rfl (show i1_3.toInt < 60 from (Int.not_le.mp h4)) ?_
      refine w_mv (pc1 := 17) (st1 := [.ref 13]) rfl rfl rfl ?_
      refine w_mv (pc1 := 18) (st1 := [.ref 13, .ref 13]) rfl rfl rfl ?_
      refine cw_gf (v := .int i1_3) (pc1 := 21) rfl (by omega) (by omega) g1 rfl rfl ?_
      refine w_mv (pc1 := 22) (st1 := [.int 1, .int i1_3, .ref 13]) rfl rfl rfl ?_
      refine w_mv (pc1 := 23) (st1 := [.int (i1_3 + 1), .ref 13]) rfl rfl rfl ?_
      refine cw_pf (c1 := .inr (.inl (5, [.ref 14, .ref 15, .int i1_2, .int (i1_3 + 1), va_rf o1_4, va_rf o1_5]))) (pc1 := 26) rfl (by omega) (by omega) g1 rfl rfl rfl rfl ?_
      have g6 : (va_up G 13 (.inr (.inl (5, [.ref 14, .ref 15, .int i1_2, .int (i1_3 + 1), va_rf o1_4, va_rf o1_5])))) 13 = .inr (.inl (5, [.ref 14, .ref 15, .int i1_2, .int (i1_3 + 1), va_rf o1_4, va_rf o1_5])) := up_eq
      refine w_mv (pc1 := 27) (st1 := [.ref 13]) rfl rfl rfl ?_
      refine w_mv (pc1 := 28) (st1 := [.ref 13, .ref 13]) rfl rfl rfl ?_
      refine cw_gf (v := .int i1_2) (pc1 := 31) rfl (by omega) (by omega) g6 rfl rfl ?_
      refine w_mv (pc1 := 32) (st1 := [.int 1, .int i1_2, .ref 13]) rfl rfl rfl ?_
      refine w_mv (pc1 := 33) (st1 := [.int (i1_2 - 1), .ref 13]) rfl rfl rfl ?_
      refine cw_pf (c1 := .inr (.inl (5, [.ref 14, .ref 15, .int (i1_2 - 1), .int (i1_3 + 1), va_rf o1_4, va_rf o1_5]))) (pc1 := 36) rfl (by omega) (by omega) g6 rfl rfl rfl rfl ?_
      rw [va_uu]
      have g7 : (va_up G 13 (.inr (.inl (5, [.ref 14, .ref 15, .int (i1_2 - 1), .int (i1_3 + 1), va_rf o1_4, va_rf o1_5])))) 13 = .inr (.inl (5, [.ref 14, .ref 15, .int (i1_2 - 1), .int (i1_3 + 1), va_rf o1_4, va_rf o1_5])) := up_eq
      refine w_mv (pc1 := 37) (st1 := [.ref 13]) rfl rfl rfl ?_
      refine w_mv (pc1 := 38) (st1 := [.ref 13, .ref 13]) rfl rfl rfl ?_
      refine cw_gf (v := .ref 14) (pc1 := 41) rfl (by omega) (by omega) g7 rfl rfl ?_
      refine w_mv (pc1 := 42) (st1 := [.ref 13, .ref 14, .ref 13]) rfl rfl rfl ?_
      refine cw_gf (v := .int (i1_2 - 1)) (pc1 := 45) rfl (by omega) (by omega) g7 rfl rfl ?_
      obtain ⟨b8b, f8, g8, hh⟩ := hh
      obtain ⟨q9a, q9b, hh⟩ := hh
      refine cw_ald (pc1 := 46) rfl (by omega) g8 rfl q9a q9b rfl ?_
      obtain ⟨x10, e10, hh⟩ := hh
      rw [e10]
      obtain ⟨b11a, b11b, i11_1, i11_2, i11_3, o11_4, g11, hh⟩ := hh
      refine w_call (M' := sM_74) (vals := [.ref x10]) (rest := [.ref 13]) (lv' := [(0, .ref x10)]) rfl rfl rfl rfl rfl rfl (cH_rcv (by omega) (by omega) g11) rfl rfl rfl ?_
      refine hh _ _ _ _ (fun r12 N12 G12 kc12 ks12 hh => ?_)
      obtain ⟨eN12, eG12, ek12, es12, hh⟩ := hh
      subst eN12
      subst eG12
      subst ek12
      subst es12
      obtain ⟨o12, er12, hh⟩ := hh
      subst er12
      refine w_kr (pc1 := 49) rfl ?_
      refine cw_pf (c1 := .inr (.inl (5, [.ref 14, .ref 15, .int (i1_2 - 1), .int (i1_3 + 1), va_rf o12, va_rf o1_5]))) (pc1 := 52) rfl (by omega) (by omega) g7 rfl (by cases o12 <;> rfl) rfl rfl ?_
      rw [va_uu]
      have g13 : (va_up G 13 (.inr (.inl (5, [.ref 14, .ref 15, .int (i1_2 - 1), .int (i1_3 + 1), va_rf o12, va_rf o1_5])))) 14 = .inl (6, (121, .inr (.inr (.inr (.inr f8))))) := (va_ne (ne_ao g8 g7)).trans ((va_ne (ne_ao g8 g7)).symm.trans g8)
      have g14 : (va_up G 13 (.inr (.inl (5, [.ref 14, .ref 15, .int (i1_2 - 1), .int (i1_3 + 1), va_rf o12, va_rf o1_5])))) x10 = .inr (.inl (10, [.ref (x10 + 1), .int i11_1, .int i11_2, .int i11_3, va_rf o11_4])) := (va_ne (ne_ob g11 g7 (by decide))).trans ((va_ne (ne_ob g11 g7 (by decide))).symm.trans g11)
      have g15 : (va_up G 13 (.inr (.inl (5, [.ref 14, .ref 15, .int (i1_2 - 1), .int (i1_3 + 1), va_rf o12, va_rf o1_5])))) 13 = .inr (.inl (5, [.ref 14, .ref 15, .int (i1_2 - 1), .int (i1_3 + 1), va_rf o12, va_rf o1_5])) := up_eq
      refine w_mv (pc1 := 53) (st1 := [.ref 13]) rfl rfl rfl ?_
      refine w_mv (pc1 := 54) (st1 := [.ref 13, .ref 13]) rfl rfl rfl ?_
      refine cw_gf (v := .ref 15) (pc1 := 57) rfl (by omega) (by omega) g15 rfl rfl ?_
      refine w_mv (pc1 := 58) (st1 := [.ref 13, .ref 15, .ref 13]) rfl rfl rfl ?_
      refine cw_gf (v := .int (i1_2 - 1)) (pc1 := 61) rfl (by omega) (by omega) g15 rfl rfl ?_
      obtain ⟨b16b, f16, g16, hh⟩ := hh
      obtain ⟨q17a, q17b, hh⟩ := hh
      refine cw_ald (pc1 := 62) rfl (by omega) g16 rfl q17a q17b rfl ?_
      obtain ⟨x18, e18, hh⟩ := hh
      rw [e18]
      obtain ⟨b19a, b19b, i19_1, i19_2, i19_3, o19_4, g19, hh⟩ := hh
      refine w_call (M' := sM_74) (vals := [.ref x18]) (rest := [.ref 13]) (lv' := [(0, .ref x18)]) rfl rfl rfl rfl rfl rfl (cH_rcv (by omega) (by omega) g19) rfl rfl rfl ?_
      refine hh _ _ _ _ (fun r20 N20 G20 kc20 ks20 hh => ?_)
      obtain ⟨eN20, eG20, ek20, es20, hh⟩ := hh
      subst eN20
      subst eG20
      subst ek20
      subst es20
      obtain ⟨o20, er20, hh⟩ := hh
      subst er20
      refine w_kr (pc1 := 65) rfl ?_
      refine cw_pf (c1 := .inr (.inl (5, [.ref 14, .ref 15, .int (i1_2 - 1), .int (i1_3 + 1), va_rf o12, va_rf o20]))) (pc1 := 68) rfl (by omega) (by omega) g15 rfl (by cases o20 <;> rfl) rfl rfl ?_
      rw [va_uu]
      have g21 : (va_up G 13 (.inr (.inl (5, [.ref 14, .ref 15, .int (i1_2 - 1), .int (i1_3 + 1), va_rf o12, va_rf o20])))) 14 = .inl (6, (121, .inr (.inr (.inr (.inr f8))))) := (va_ne (ne_ao g13 g15)).trans ((va_ne (ne_ao g13 g15)).symm.trans g13)
      have g22 : (va_up G 13 (.inr (.inl (5, [.ref 14, .ref 15, .int (i1_2 - 1), .int (i1_3 + 1), va_rf o12, va_rf o20])))) x10 = .inr (.inl (10, [.ref (x10 + 1), .int i11_1, .int i11_2, .int i11_3, va_rf o11_4])) := (va_ne (ne_ob g14 g15 (by decide))).trans ((va_ne (ne_ob g14 g15 (by decide))).symm.trans g14)
      have g23 : (va_up G 13 (.inr (.inl (5, [.ref 14, .ref 15, .int (i1_2 - 1), .int (i1_3 + 1), va_rf o12, va_rf o20])))) 15 = .inl (6, (121, .inr (.inr (.inr (.inr f16))))) := (va_ne (ne_ao g16 g15)).trans ((va_ne (ne_ao g16 g15)).symm.trans g16)
      have g24 : (va_up G 13 (.inr (.inl (5, [.ref 14, .ref 15, .int (i1_2 - 1), .int (i1_3 + 1), va_rf o12, va_rf o20])))) x18 = .inr (.inl (10, [.ref (x18 + 1), .int i19_1, .int i19_2, .int i19_3, va_rf o19_4])) := (va_ne (ne_ob g19 g15 (by decide))).trans ((va_ne (ne_ob g19 g15 (by decide))).symm.trans g19)
      have g25 : (va_up G 13 (.inr (.inl (5, [.ref 14, .ref 15, .int (i1_2 - 1), .int (i1_3 + 1), va_rf o12, va_rf o20])))) 13 = .inr (.inl (5, [.ref 14, .ref 15, .int (i1_2 - 1), .int (i1_3 + 1), va_rf o12, va_rf o20])) := up_eq
      refine w_wk (l1 := [(0, .ref 13)]) rfl ⟨rfl, trivial⟩ ?_
      refine hh d _ _ P (fun r N1 G1 kc1 ks1 q => ?_)
      exact c_acc (hP r N1 G1 _ _ q) (by omega) (by omega)
set_option maxRecDepth 20000 in
set_option maxHeartbeats 4000000 in
theorem k_77_68  {N : Nat} {G : Nat → sx_C} {K : Option Value ⊕ Nat → Nat → (Nat → sx_C) → Nat → Nat → Prop} (hh : 13 < N ∧ ∃ (i1_2 : Int32) (i1_3 : Int32) (o1_4 : Option Nat) (o1_5 : Option Nat), G 13 = .inr (.inl (5, [.ref 14, .ref 15, .int i1_2, .int i1_3, va_rf o1_4, va_rf o1_5])) ∧ ((o1_4 = none → False) ∧ (∀ x2, o1_4 = some x2 → 5 ≤ x2 ∧ x2 < N ∧ ∃ (i3_1 : Int32) (i3_2 : Int32) (i3_3 : Int32) (o3_4 : Option Nat), G x2 = .inr (.inl (10, [.ref (x2 + 1), .int i3_1, .int i3_2, .int i3_3, va_rf o3_4])) ∧ ((i3_1.toInt = 0 → ((o1_5 = none → x2 ≠ 4 ∧ K (.inl (some (.int 2))) (N) G (0) (0)) ∧ (∀ x5, o1_5 = some x5 → x2 ≠ 4 ∧ x5 ≠ 4 ∧ ((x2 = x5 → cT (2) sM_77 0 [(0, .ref 13)] [] (N) G (fun r N1 G1 kc1 ks1 => K r N1 G1 (kc1) (ks1))) ∧ (x2 ≠ x5 → K (.inl (some (.int 2))) (N) G (0) (0)))))) ∧ (i3_1.toInt ≠ 0 → ((o1_5 = none → False) ∧ (∀ x10, o1_5 = some x10 → 5 ≤ x10 ∧ x10 < N ∧ ∃ (i11_1 : Int32) (i11_2 : Int32) (i11_3 : Int32) (o11_4 : Option Nat), G x10 = .inr (.inl (10, [.ref (x10 + 1), .int i11_1, .int i11_2, .int i11_3, va_rf o11_4])) ∧ ((i11_1.toInt ≠ 0 → ((i3_1.toInt ≠ i11_1.toInt → K (.inl (some (.int 1))) (N) G (0) (0)) ∧ (i3_1.toInt = i11_1.toInt → ((i3_2.toInt ≠ i11_2.toInt → K (.inl (some (.int 1))) (N) G (0) (0)) ∧ (i3_2.toInt = i11_2.toInt → ((i3_3.toInt ≠ i11_3.toInt → K (.inl (some (.int 1))) (N) G (0) (0)) ∧ (i3_3.toInt = i11_3.toInt → cT (1) sM_79 0 [(0, .ref 13)] [] (N) G (fun r19 N19 G19 kc19 ks19 => r19 = .inl none ∧ cT (2) sM_77 0 [(0, .ref 13)] [] (N19) G19 (fun r N1 G1 kc1 ks1 => K r N1 G1 (kc19 + kc1) (ks19 + ks1)))))))))) ∧ (i11_1.toInt = 0 → x2 ≠ 4 ∧ x10 ≠ 4 ∧ ((x2 = x10 → cT (2) sM_77 0 [(0, .ref 13)] [] (N) G (fun r N1 G1 kc1 ks1 => K r N1 G1 (kc1) (ks1))) ∧ (x2 ≠ x10 → K (.inl (some (.int 2))) (N) G (0) (0)))))))))))) : cT (2) sM_77 68 [(0, .ref 13)] [] N G K := by
  intro d dc ds P hP
  refine w_mv (pc1 := 69) (st1 := [.ref 13]) rfl rfl rfl ?_
  obtain ⟨b1b, i1_2, i1_3, o1_4, o1_5, g1, hh⟩ := hh
  refine cw_gf (v := va_rf o1_4) (pc1 := 72) rfl (by omega) (by omega) g1 rfl rfl ?_
  cases o1_4 with
  | none =>
    replace hh := hh.1 rfl
    exact hh.elim
  | some x2 =>
    replace hh := hh.2 x2 rfl
    obtain ⟨b3a, b3b, i3_1, i3_2, i3_3, o3_4, g3, hh⟩ := hh
    refine cw_gf (v := .int i3_1) (pc1 := 75) rfl (by omega) (by omega) g3 rfl rfl ?_
    by_cases h4 : i3_1.toInt = 0
    ·
      replace hh := hh.1 h4
      refine w_zeq_T (pc1 := 88) rfl rfl (show i3_1.toInt = 0 from h4) ?_
      refine w_mv (pc1 := 89) (st1 := [.ref 13]) rfl rfl rfl ?_
      refine cw_gf (v := .ref x2) (pc1 := 92) rfl (by omega) (by omega) g1 rfl rfl ?_
      refine w_mv (pc1 := 93) (st1 := [.ref 13, .ref x2]) rfl rfl rfl ?_
      refine cw_gf (v := va_rf o1_5) (pc1 := 96) rfl (by omega) (by omega) g1 rfl rfl ?_
      cases o1_5 with
      | none =>
        replace hh := hh.1 rfl
        obtain ⟨q6a, hh⟩ := hh
        refine cw_acE_F (pc1 := 99) rfl (by decide) rfl op_n (op_r (by omega)) o_n2 ?_
        refine w_mv (pc1 := 100) (st1 := [.int 2]) rfl rfl rfl ?_
        refine sx_wp.stop rfl rfl rfl ?_
        exact c_acc (hP _ _ _ _ _ hh) (by omega) (by omega)
      | some x5 =>
        replace hh := hh.2 x5 rfl
        obtain ⟨q7a, hh⟩ := hh
        obtain ⟨q8a, hh⟩ := hh
        by_cases h9 : x2 = x5
        ·
          replace hh := hh.1 h9
          refine cw_acE_T (pc1 := 0) rfl rfl (op_r (by omega)) (op_r (by omega)) (o_eq h9) ?_
          refine w_wk (l1 := [(0, .ref 13)]) rfl ⟨rfl, trivial⟩ ?_
          refine hh d _ _ P (fun r N1 G1 kc1 ks1 q => ?_)
          exact c_acc (hP r N1 G1 _ _ q) (by omega) (by omega)
        ·
          replace hh := hh.2 h9
          refine cw_acE_F (pc1 := 99) rfl (by decide) rfl (op_r (by omega)) (op_r (by omega)) (o_ne h9) ?_
          refine w_mv (pc1 := 100) (st1 := [.int 2]) rfl rfl rfl ?_
          refine sx_wp.stop rfl rfl rfl ?_
          exact c_acc (hP _ _ _ _ _ hh) (by omega) (by omega)
    ·
      replace hh := hh.2 h4
      refine w_zeq_F (pc1 := 78) rfl (by decide) rfl (show i3_1.toInt ≠ 0 from h4) ?_
      refine w_mv (pc1 := 79) (st1 := [.ref 13]) rfl rfl rfl ?_
      refine cw_gf (v := va_rf o1_5) (pc1 := 82) rfl (by omega) (by omega) g1 rfl rfl ?_
      cases o1_5 with
      | none =>
        replace hh := hh.1 rfl
        exact hh.elim
      | some x10 =>
        replace hh := hh.2 x10 rfl
        obtain ⟨b11a, b11b, i11_1, i11_2, i11_3, o11_4, g11, hh⟩ := hh
        refine cw_gf (v := .int i11_1) (pc1 := 85) rfl (by omega) (by omega) g11 rfl rfl ?_
        by_cases h12 : i11_1.toInt = 0
        ·
          replace hh := hh.2 h12
          refine w_zne_F (pc1 := 88) rfl (by decide) rfl (show i11_1.toInt = 0 from h12) ?_
          refine w_mv (pc1 := 89) (st1 := [.ref 13]) rfl rfl rfl ?_
          refine cw_gf (v := .ref x2) (pc1 := 92) rfl (by omega) (by omega) g1 rfl rfl ?_
          refine w_mv (pc1 := 93) (st1 := [.ref 13, .ref x2]) rfl rfl rfl ?_
          refine cw_gf (v := .ref x10) (pc1 := 96) rfl (by omega) (by omega) g1 rfl rfl ?_
          obtain ⟨q13a, hh⟩ := hh
          obtain ⟨q14a, hh⟩ := hh
          by_cases h15 : x2 = x10
          ·
            replace hh := hh.1 h15
            refine cw_acE_T (pc1 := 0) rfl rfl (op_r (by omega)) (op_r (by omega)) (o_eq h15) ?_
            refine w_wk (l1 := [(0, .ref 13)]) rfl ⟨rfl, trivial⟩ ?_
            refine hh d _ _ P (fun r N1 G1 kc1 ks1 q => ?_)
            exact c_acc (hP r N1 G1 _ _ q) (by omega) (by omega)
          ·
            replace hh := hh.2 h15
            refine cw_acE_F (pc1 := 99) rfl (by decide) rfl (op_r (by omega)) (op_r (by omega)) (o_ne h15) ?_
            refine w_mv (pc1 := 100) (st1 := [.int 2]) rfl rfl rfl ?_
            refine sx_wp.stop rfl rfl rfl ?_
            exact c_acc (hP _ _ _ _ _ hh) (by omega) (by omega)
        ·
          replace hh := hh.1 h12
          refine w_zne_T (pc1 := 101) rfl rfl (show i11_1.toInt ≠ 0 from h12) ?_
          refine w_mv (pc1 := 102) (st1 := [.ref 13]) rfl rfl rfl ?_
          refine w_call (M' := sM_78) (vals := [.ref 13]) (rest := []) (lv' := [(0, .ref 13)]) rfl rfl rfl rfl rfl rfl (cH_rcv (by omega) (by omega) g1) rfl rfl rfl ?_
          refine w_mv (pc1 := 1) (st1 := [.ref 13]) rfl rfl rfl ?_
          refine cw_gf (v := .ref x2) (pc1 := 4) rfl (by omega) (by omega) g1 rfl rfl ?_
          refine cw_gf (v := .int i3_1) (pc1 := 7) rfl (by omega) (by omega) g3 rfl rfl ?_
          refine w_mv (pc1 := 8) (st1 := [.ref 13, .int i3_1]) rfl rfl rfl ?_
          refine cw_gf (v := .ref x10) (pc1 := 11) rfl (by omega) (by omega) g1 rfl rfl ?_
          refine cw_gf (v := .int i11_1) (pc1 := 14) rfl (by omega) (by omega) g11 rfl rfl ?_
          by_cases h16 : i3_1.toInt = i11_1.toInt
          ·
            replace hh := hh.2 h16
            refine w_ine_F (pc1 := 17) rfl (by decide) rfl (show i3_1.toInt = i11_1.toInt from h16) ?_
            refine w_mv (pc1 := 18) (st1 := [.ref 13]) rfl rfl rfl ?_
            refine cw_gf (v := .ref x2) (pc1 := 21) rfl (by omega) (by omega) g1 rfl rfl ?_
            refine cw_gf (v := .int i3_2) (pc1 := 24) rfl (by omega) (by omega) g3 rfl rfl ?_
            refine w_mv (pc1 := 25) (st1 := [.ref 13, .int i3_2]) rfl rfl rfl ?_
            refine cw_gf (v := .ref x10) (pc1 := 28) rfl (by omega) (by omega) g1 rfl rfl ?_
            refine cw_gf (v := .int i11_2) (pc1 := 31) rfl (by omega) (by omega) g11 rfl rfl ?_
            by_cases h17 : i3_2.toInt = i11_2.toInt
            ·
              replace hh := hh.2 h17
              refine w_ine_F (pc1 := 34) rfl (by decide) rfl (show i3_2.toInt = i11_2.toInt from h17) ?_
              refine w_mv (pc1 := 35) (st1 := [.ref 13]) rfl rfl rfl ?_
              refine cw_gf (v := .ref x2) (pc1 := 38) rfl (by omega) (by omega) g1 rfl rfl ?_
              refine cw_gf (v := .int i3_3) (pc1 := 41) rfl (by omega) (by omega) g3 rfl rfl ?_
              refine w_mv (pc1 := 42) (st1 := [.ref 13, .int i3_3]) rfl rfl rfl ?_
              refine cw_gf (v := .ref x10) (pc1 := 45) rfl (by omega) (by omega) g1 rfl rfl ?_
              refine cw_gf (v := .int i11_3) (pc1 := 48) rfl (by omega) (by omega) g11 rfl rfl ?_
              by_cases h18 : i3_3.toInt = i11_3.toInt
              ·
                replace hh := hh.2 h18
                refine w_ine_F (pc1 := 51) rfl (by decide) rfl (show i3_3.toInt = i11_3.toInt from h18) ?_
                refine w_mv (pc1 := 52) (st1 := [.int 1]) rfl rfl rfl ?_
                refine w_mv (pc1 := 56) (st1 := [.int 1]) rfl rfl rfl ?_
                refine w_iret (pc1 := 105) rfl rfl rfl rfl ?_
                refine w_mv (pc1 := 108) (st1 := []) rfl rfl rfl ?_
                refine w_mv (pc1 := 109) (st1 := [.ref 13]) rfl rfl rfl ?_
                refine w_call (M' := sM_79) (vals := [.ref 13]) (rest := []) (lv' := [(0, .ref 13)]) rfl rfl rfl rfl rfl rfl (cH_rcv (by omega) (by omega) g1) rfl rfl rfl ?_
                refine hh _ _ _ _ (fun r19 N19 G19 kc19 ks19 hh => ?_)
                obtain ⟨er19, hh⟩ := hh
                subst er19
                refine w_kv (pc1 := 112) rfl ?_
                refine w_mv (pc1 := 0) (st1 := []) rfl rfl rfl ?_
                refine w_wk (l1 := [(0, .ref 13)]) rfl ⟨rfl, trivial⟩ ?_
                refine hh d _ _ P (fun r N1 G1 kc1 ks1 q => ?_)
                exact c_acc (hP r N1 G1 _ _ q) (by omega) (by omega)
              ·
                replace hh := hh.1 h18
                refine w_ine_T (pc1 := 55) rfl rfl (show i3_3.toInt ≠ i11_3.toInt from h18) ?_
                refine w_mv (pc1 := 56) (st1 := [.int 0]) rfl rfl rfl ?_
                refine w_iret (pc1 := 105) rfl rfl rfl rfl ?_
                refine w_mv (pc1 := 115) (st1 := []) rfl rfl rfl ?_
                refine w_mv (pc1 := 116) (st1 := [.int 1]) rfl rfl rfl ?_
                refine sx_wp.stop rfl rfl rfl ?_
                exact c_acc (hP _ _ _ _ _ hh) (by omega) (by omega)
            ·
              replace hh := hh.1 h17
              refine w_ine_T (pc1 := 55) rfl rfl (show i3_2.toInt ≠ i11_2.toInt from h17) ?_
              refine w_mv (pc1 := 56) (st1 := [.int 0]) rfl rfl rfl ?_
              refine w_iret (pc1 := 105) rfl rfl rfl rfl ?_
              refine w_mv (pc1 := 115) (st1 := []) rfl rfl rfl ?_
              refine w_mv (pc1 := 116) (st1 := [.int 1]) rfl rfl rfl ?_
              refine sx_wp.stop rfl rfl rfl ?_
              exact c_acc (hP _ _ _ _ _ hh) (by omega) (by omega)
          ·
            replace hh := hh.1 h16
            refine w_ine_T (pc1 := 55) rfl rfl (show i3_1.toInt ≠ i11_1.toInt from h16) ?_
            refine w_mv (pc1 := 56) (st1 := [.int 0]) rfl rfl rfl ?_
            refine w_iret (pc1 := 105) rfl rfl rfl rfl ?_
            refine w_mv (pc1 := 115) (st1 := []) rfl rfl rfl ?_
            refine w_mv (pc1 := 116) (st1 := [.int 1]) rfl rfl rfl ?_
            refine sx_wp.stop rfl rfl rfl ?_
            exact c_acc (hP _ _ _ _ _ hh) (by omega) (by omega)
set_option maxRecDepth 20000 in
set_option maxHeartbeats 4000000 in
theorem k_79_0  {N : Nat} {G : Nat → sx_C} {K : Option Value ⊕ Nat → Nat → (Nat → sx_C) → Nat → Nat → Prop} (hh : 13 < N ∧ ∃ (i1_2 : Int32) (i1_3 : Int32) (o1_4 : Option Nat) (o1_5 : Option Nat), G 13 = .inr (.inl (5, [.ref 14, .ref 15, .int i1_2, .int i1_3, va_rf o1_4, va_rf o1_5])) ∧ ((o1_4 = none → False) ∧ (∀ x2, o1_4 = some x2 → 5 ≤ x2 ∧ x2 < N ∧ ∃ (i3_1 : Int32) (i3_2 : Int32) (i3_3 : Int32) (o3_4 : Option Nat), G x2 = .inr (.inl (10, [.ref (x2 + 1), .int i3_1, .int i3_2, .int i3_3, va_rf o3_4])) ∧ cT (1) sM_79 10 [(0, .ref 13), (1, .int (i3_3 - 1))] [] (N) G (fun r N1 G1 kc1 ks1 => K r N1 G1 (kc1) (ks1))))) : cT (1) sM_79 0 [(0, .ref 13)] [] N G K := by
  intro d dc ds P hP
  refine w_mv (pc1 := 1) (st1 := [.ref 13]) rfl rfl rfl ?_
  obtain ⟨b1b, i1_2, i1_3, o1_4, o1_5, g1, hh⟩ := hh
  refine cw_gf (v := va_rf o1_4) (pc1 := 4) rfl (by omega) (by omega) g1 rfl rfl ?_
  cases o1_4 with
  | none =>
    replace hh := hh.1 rfl
    exact hh.elim
  | some x2 =>
    replace hh := hh.2 x2 rfl
    obtain ⟨b3a, b3b, i3_1, i3_2, i3_3, o3_4, g3, hh⟩ := hh
    refine cw_gf (v := .int i3_3) (pc1 := 7) rfl (by omega) (by omega) g3 rfl rfl ?_
    refine w_mv (pc1 := 8) (st1 := [.int 1, .int i3_3]) rfl rfl rfl ?_
    refine w_mv (pc1 := 9) (st1 := [.int (i3_3 - 1)]) rfl rfl rfl ?_
    refine w_mv (pc1 := 10) (lv1 := [(1, .int (i3_3 - 1)), (0, .ref 13)]) (st1 := []) rfl rfl rfl ?_
    refine w_wk (l1 := [(0, .ref 13), (1, .int (i3_3 - 1))]) rfl ⟨rfl, rfl, trivial⟩ ?_
    refine hh d _ _ P (fun r N1 G1 kc1 ks1 q => ?_)
    exact c_acc (hP r N1 G1 _ _ q) (by omega) (by omega)
set_option maxRecDepth 20000 in
set_option maxHeartbeats 4000000 in
theorem k_79_10 {p1 : Int32} {N : Nat} {G : Nat → sx_C} {K : Option Value ⊕ Nat → Nat → (Nat → sx_C) → Nat → Nat → Prop} (hh : ((p1.toInt < 0 → K (.inl none) (N) G (0) (0)) ∧ (0 ≤ p1.toInt → 13 < N ∧ ∃ (i2_2 : Int32) (i2_3 : Int32) (o2_4 : Option Nat) (o2_5 : Option Nat), G 13 = .inr (.inl (5, [.ref 14, .ref 15, .int i2_2, .int i2_3, va_rf o2_4, va_rf o2_5])) ∧ 14 < N ∧ ∃ (f3 : Nat → Option Nat), G 14 = .inl (6, (121, .inr (.inr (.inr (.inr f3))))) ∧ ((121 ≤ i2_2.toInt → K (.inl none) (N) G (0) (0)) ∧ (i2_2.toInt < 121 → ((o2_4 = none → False) ∧ (∀ x5, o2_4 = some x5 → 5 ≤ x5 ∧ x5 < N ∧ ∃ (i6_1 : Int32) (i6_2 : Int32) (i6_3 : Int32) (o6_4 : Option Nat), G x5 = .inr (.inl (10, [.ref (x5 + 1), .int i6_1, .int i6_2, .int i6_3, va_rf o6_4])) ∧ 5 ≤ x5 + 1 ∧ x5 + 1 < N ∧ ∃ (f7 : Nat → Option Nat), G (x5 + 1) = .inl (6, (3, .inr (.inr (.inr (.inr f7))))) ∧ 0 ≤ p1.toInt ∧ p1.toInt < (3 : Nat) ∧ ∃ x9, f7 p1.toNatClampNeg = some x9 ∧ 0 ≤ i2_2.toInt ∧ i2_2.toInt < (121 : Nat) ∧ 5 ≤ x9 ∧ x9 < N ∧ ∃ (i11_1 : Int32) (i11_2 : Int32) (i11_3 : Int32) (o11_4 : Option Nat), G x9 = .inr (.inl (10, [.ref (x9 + 1), .int i11_1, .int i11_2, .int i11_3, va_rf o11_4])) ∧ ((o2_5 = none → False) ∧ (∀ x17, o2_5 = some x17 → 5 ≤ x17 ∧ x17 < N ∧ ∃ (i18_1 : Int32) (i18_2 : Int32) (i18_3 : Int32) (o18_4 : Option Nat), (va_up G 14 (.inl (6, (121, .inr (.inr (.inr (.inr (va_up f3 i2_2.toNatClampNeg (some x9))))))))) x17 = .inr (.inl (10, [.ref (x17 + 1), .int i18_1, .int i18_2, .int i18_3, va_rf o18_4])) ∧ 5 ≤ x17 + 1 ∧ x17 + 1 < N ∧ ∃ (f19 : Nat → Option Nat), (va_up G 14 (.inl (6, (121, .inr (.inr (.inr (.inr (va_up f3 i2_2.toNatClampNeg (some x9))))))))) (x17 + 1) = .inl (6, (3, .inr (.inr (.inr (.inr f19))))) ∧ 0 ≤ p1.toInt ∧ p1.toInt < (3 : Nat) ∧ ∃ x21, f19 p1.toNatClampNeg = some x21 ∧ 15 < N ∧ ∃ (f22 : Nat → Option Nat), (va_up G 14 (.inl (6, (121, .inr (.inr (.inr (.inr (va_up f3 i2_2.toNatClampNeg (some x9))))))))) 15 = .inl (6, (121, .inr (.inr (.inr (.inr f22))))) ∧ 0 ≤ i2_2.toInt ∧ i2_2.toInt < (121 : Nat) ∧ 5 ≤ x21 ∧ x21 < N ∧ ∃ (i24_1 : Int32) (i24_2 : Int32) (i24_3 : Int32) (o24_4 : Option Nat), (va_up G 14 (.inl (6, (121, .inr (.inr (.inr (.inr (va_up f3 i2_2.toNatClampNeg (some x9))))))))) x21 = .inr (.inl (10, [.ref (x21 + 1), .int i24_1, .int i24_2, .int i24_3, va_rf o24_4])) ∧ cT (1) sM_79 10 [(0, .ref 13), (1, .int (p1 + (-1)))] [] (N) (va_up (va_up (va_up G 14 (.inl (6, (121, .inr (.inr (.inr (.inr (va_up f3 i2_2.toNatClampNeg (some x9))))))))) 15 (.inl (6, (121, .inr (.inr (.inr (.inr (va_up f22 i2_2.toNatClampNeg (some x21))))))))) 13 (.inr (.inl (5, [.ref 14, .ref 15, .int (i2_2 + 1), .int i2_3, .ref x5, .ref x17])))) (fun r N1 G1 kc1 ks1 => K r N1 G1 (kc1) (ks1))))))))))) : cT (1) sM_79 10 [(0, .ref 13), (1, .int p1)] [] N G K := by
  intro d dc ds P hP
  refine w_mv (pc1 := 11) (st1 := [.int p1]) rfl rfl rfl ?_
  by_cases h1 : p1.toInt < 0
  ·
    replace hh := hh.1 h1
    refine w_zlt_T (pc1 := 78) rfl rfl (show p1.toInt < 0 from h1) ?_
    refine sx_wp.stop rfl rfl rfl ?_
    exact c_acc (hP _ _ _ _ _ hh) (by omega) (by omega)
  ·
    replace hh := hh.2 (Int.not_lt.mp h1)
    refine w_zlt_F (pc1 := 14) rfl (by decide) rfl (show 0 ≤ p1.toInt from (Int.not_lt.mp h1)) ?_
    refine w_mv (pc1 := 15) (st1 := [.ref 13]) rfl rfl rfl ?_
    obtain ⟨b2b, i2_2, i2_3, o2_4, o2_5, g2, hh⟩ := hh
    refine cw_gf (v := .int i2_2) (pc1 := 18) rfl (by omega) (by omega) g2 rfl rfl ?_
    refine w_mv (pc1 := 19) (st1 := [.ref 13, .int i2_2]) rfl rfl rfl ?_
    refine cw_gf (v := .ref 14) (pc1 := 22) rfl (by omega) (by omega) g2 rfl rfl ?_
    obtain ⟨b3b, f3, g3, hh⟩ := hh
    refine cw_alen (pc1 := 23) rfl (by omega) g3 rfl ?_
    by_cases h4 : 121 ≤ i2_2.toInt
    ·
      replace hh := hh.1 h4
      refine w_ige_T (pc1 := 78) rfl rfl (show 121 ≤ i2_2.toInt from h4) ?_
      refine sx_wp.stop rfl rfl rfl ?_
      exact c_acc (hP _ _ _ _ _ hh) (by omega) (by omega)
    ·
      replace hh := hh.2 (Int.not_le.mp h4)
      refine w_ige_F (pc1 := 26) rfl (by decide) rfl (show i2_2.toInt < 121 from (Int.not_le.mp h4)) ?_
      refine w_mv (pc1 := 27) (st1 := [.ref 13]) rfl rfl rfl ?_
      refine cw_gf (v := .ref 14) (pc1 := 30) rfl (by omega) (by omega) g2 rfl rfl ?_
      refine w_mv (pc1 := 31) (st1 := [.ref 13, .ref 14]) rfl rfl rfl ?_
      refine cw_gf (v := .int i2_2) (pc1 := 34) rfl (by omega) (by omega) g2 rfl rfl ?_
      refine w_mv (pc1 := 35) (st1 := [.ref 13, .int i2_2, .ref 14]) rfl rfl rfl ?_
      refine cw_gf (v := va_rf o2_4) (pc1 := 38) rfl (by omega) (by omega) g2 rfl rfl ?_
      cases o2_4 with
      | none =>
        replace hh := hh.1 rfl
        exact hh.elim
      | some x5 =>
        replace hh := hh.2 x5 rfl
        obtain ⟨b6a, b6b, i6_1, i6_2, i6_3, o6_4, g6, hh⟩ := hh
        refine cw_gf (v := .ref (x5 + 1)) (pc1 := 41) rfl (by omega) (by omega) g6 rfl rfl ?_
        refine w_mv (pc1 := 42) (st1 := [.int p1, .ref (x5 + 1), .int i2_2, .ref 14]) rfl rfl rfl ?_
        obtain ⟨b7a, b7b, f7, g7, hh⟩ := hh
        obtain ⟨q8a, q8b, hh⟩ := hh
        refine cw_ald (pc1 := 43) rfl (by omega) g7 rfl q8a q8b rfl ?_
        obtain ⟨x9, e9, hh⟩ := hh
        rw [e9]
        obtain ⟨q10a, q10b, hh⟩ := hh
        obtain ⟨b11a, b11b, i11_1, i11_2, i11_3, o11_4, g11, hh⟩ := hh
        refine cw_as (pc1 := 44) rfl (by omega) (by omega) g3 (by omega) (by omega) g11 rfl q10a q10b rfl ?_
        have g12 : (va_up G 14 (.inl (6, (121, .inr (.inr (.inr (.inr (va_up f3 i2_2.toNatClampNeg (some x9))))))))) 13 = .inr (.inl (5, [.ref 14, .ref 15, .int i2_2, .int i2_3, .ref x5, va_rf o2_5])) := (va_ne (ne_oa g2 g3)).trans g2
        have g13 : (va_up G 14 (.inl (6, (121, .inr (.inr (.inr (.inr (va_up f3 i2_2.toNatClampNeg (some x9))))))))) x5 = .inr (.inl (10, [.ref (x5 + 1), .int i6_1, .int i6_2, .int i6_3, va_rf o6_4])) := (va_ne (ne_oa g6 g3)).trans g6
        have g14 : (va_up G 14 (.inl (6, (121, .inr (.inr (.inr (.inr (va_up f3 i2_2.toNatClampNeg (some x9))))))))) (x5 + 1) = .inl (6, (3, .inr (.inr (.inr (.inr f7))))) := (va_ne (ne_al g7 g3 (by decide))).trans g7
        have g15 : (va_up G 14 (.inl (6, (121, .inr (.inr (.inr (.inr (va_up f3 i2_2.toNatClampNeg (some x9))))))))) x9 = .inr (.inl (10, [.ref (x9 + 1), .int i11_1, .int i11_2, .int i11_3, va_rf o11_4])) := (va_ne (ne_oa g11 g3)).trans g11
        have g16 : (va_up G 14 (.inl (6, (121, .inr (.inr (.inr (.inr (va_up f3 i2_2.toNatClampNeg (some x9))))))))) 14 = .inl (6, (121, .inr (.inr (.inr (.inr (va_up f3 i2_2.toNatClampNeg (some x9))))))) := up_eq
        refine w_mv (pc1 := 45) (st1 := [.ref 13]) rfl rfl rfl ?_
        refine cw_gf (v := .ref 15) (pc1 := 48) rfl (by omega) (by omega) g12 rfl rfl ?_
        refine w_mv (pc1 := 49) (st1 := [.ref 13, .ref 15]) rfl rfl rfl ?_
        refine cw_gf (v := .int i2_2) (pc1 := 52) rfl (by omega) (by omega) g12 rfl rfl ?_
        refine w_mv (pc1 := 53) (st1 := [.ref 13, .int i2_2, .ref 15]) rfl rfl rfl ?_
        refine cw_gf (v := va_rf o2_5) (pc1 := 56) rfl (by omega) (by omega) g12 rfl rfl ?_
        cases o2_5 with
        | none =>
          replace hh := hh.1 rfl
          exact hh.elim
        | some x17 =>
          replace hh := hh.2 x17 rfl
          obtain ⟨b18a, b18b, i18_1, i18_2, i18_3, o18_4, g18, hh⟩ := hh
          refine cw_gf (v := .ref (x17 + 1)) (pc1 := 59) rfl (by omega) (by omega) g18 rfl rfl ?_
          refine w_mv (pc1 := 60) (st1 := [.int p1, .ref (x17 + 1), .int i2_2, .ref 15]) rfl rfl rfl ?_
          obtain ⟨b19a, b19b, f19, g19, hh⟩ := hh
          obtain ⟨q20a, q20b, hh⟩ := hh
          refine cw_ald (pc1 := 61) rfl (by omega) g19 rfl q20a q20b rfl ?_
          obtain ⟨x21, e21, hh⟩ := hh
          rw [e21]
          obtain ⟨b22b, f22, g22, hh⟩ := hh
          obtain ⟨q23a, q23b, hh⟩ := hh
          obtain ⟨b24a, b24b, i24_1, i24_2, i24_3, o24_4, g24, hh⟩ := hh
          refine cw_as (pc1 := 62) rfl (by omega) (by omega) g22 (by omega) (by omega) g24 rfl q23a q23b rfl ?_
          have g25 : (va_up (va_up G 14 (.inl (6, (121, .inr (.inr (.inr (.inr (va_up f3 i2_2.toNatClampNeg (some x9))))))))) 15 (.inl (6, (121, .inr (.inr (.inr (.inr (va_up f22 i2_2.toNatClampNeg (some x21))))))))) 13 = .inr (.inl (5, [.ref 14, .ref 15, .int i2_2, .int i2_3, .ref x5, .ref x17])) := (va_ne (ne_oa g12 g22)).trans g12
          have g26 : (va_up (va_up G 14 (.inl (6, (121, .inr (.inr (.inr (.inr (va_up f3 i2_2.toNatClampNeg (some x9))))))))) 15 (.inl (6, (121, .inr (.inr (.inr (.inr (va_up f22 i2_2.toNatClampNeg (some x21))))))))) x5 = .inr (.inl (10, [.ref (x5 + 1), .int i6_1, .int i6_2, .int i6_3, va_rf o6_4])) := (va_ne (ne_oa g13 g22)).trans g13
          have g27 : (va_up (va_up G 14 (.inl (6, (121, .inr (.inr (.inr (.inr (va_up f3 i2_2.toNatClampNeg (some x9))))))))) 15 (.inl (6, (121, .inr (.inr (.inr (.inr (va_up f22 i2_2.toNatClampNeg (some x21))))))))) (x5 + 1) = .inl (6, (3, .inr (.inr (.inr (.inr f7))))) := (va_ne (ne_al g14 g22 (by decide))).trans g14
          have g28 : (va_up (va_up G 14 (.inl (6, (121, .inr (.inr (.inr (.inr (va_up f3 i2_2.toNatClampNeg (some x9))))))))) 15 (.inl (6, (121, .inr (.inr (.inr (.inr (va_up f22 i2_2.toNatClampNeg (some x21))))))))) x9 = .inr (.inl (10, [.ref (x9 + 1), .int i11_1, .int i11_2, .int i11_3, va_rf o11_4])) := (va_ne (ne_oa g15 g22)).trans g15
          have g29 : (va_up (va_up G 14 (.inl (6, (121, .inr (.inr (.inr (.inr (va_up f3 i2_2.toNatClampNeg (some x9))))))))) 15 (.inl (6, (121, .inr (.inr (.inr (.inr (va_up f22 i2_2.toNatClampNeg (some x21))))))))) 14 = .inl (6, (121, .inr (.inr (.inr (.inr (va_up f3 i2_2.toNatClampNeg (some x9))))))) := (va_ne (by omega)).trans g16
          have g30 : (va_up (va_up G 14 (.inl (6, (121, .inr (.inr (.inr (.inr (va_up f3 i2_2.toNatClampNeg (some x9))))))))) 15 (.inl (6, (121, .inr (.inr (.inr (.inr (va_up f22 i2_2.toNatClampNeg (some x21))))))))) x17 = .inr (.inl (10, [.ref (x17 + 1), .int i18_1, .int i18_2, .int i18_3, va_rf o18_4])) := (va_ne (ne_oa g18 g22)).trans g18
          have g31 : (va_up (va_up G 14 (.inl (6, (121, .inr (.inr (.inr (.inr (va_up f3 i2_2.toNatClampNeg (some x9))))))))) 15 (.inl (6, (121, .inr (.inr (.inr (.inr (va_up f22 i2_2.toNatClampNeg (some x21))))))))) (x17 + 1) = .inl (6, (3, .inr (.inr (.inr (.inr f19))))) := (va_ne (ne_al g19 g22 (by decide))).trans g19
          have g32 : (va_up (va_up G 14 (.inl (6, (121, .inr (.inr (.inr (.inr (va_up f3 i2_2.toNatClampNeg (some x9))))))))) 15 (.inl (6, (121, .inr (.inr (.inr (.inr (va_up f22 i2_2.toNatClampNeg (some x21))))))))) x21 = .inr (.inl (10, [.ref (x21 + 1), .int i24_1, .int i24_2, .int i24_3, va_rf o24_4])) := (va_ne (ne_oa g24 g22)).trans g24
          have g33 : (va_up (va_up G 14 (.inl (6, (121, .inr (.inr (.inr (.inr (va_up f3 i2_2.toNatClampNeg (some x9))))))))) 15 (.inl (6, (121, .inr (.inr (.inr (.inr (va_up f22 i2_2.toNatClampNeg (some x21))))))))) 15 = .inl (6, (121, .inr (.inr (.inr (.inr (va_up f22 i2_2.toNatClampNeg (some x21))))))) := up_eq
          refine w_mv (pc1 := 63) (st1 := [.ref 13]) rfl rfl rfl ?_
          refine w_mv (pc1 := 64) (st1 := [.ref 13, .ref 13]) rfl rfl rfl ?_
          refine cw_gf (v := .int i2_2) (pc1 := 67) rfl (by omega) (by omega) g25 rfl rfl ?_
          refine w_mv (pc1 := 68) (st1 := [.int 1, .int i2_2, .ref 13]) rfl rfl rfl ?_
          refine w_mv (pc1 := 69) (st1 := [.int (i2_2 + 1), .ref 13]) rfl rfl rfl ?_
          refine cw_pf (c1 := .inr (.inl (5, [.ref 14, .ref 15, .int (i2_2 + 1), .int i2_3, .ref x5, .ref x17]))) (pc1 := 72) rfl (by omega) (by omega) g25 rfl rfl rfl rfl ?_
          have g34 : (va_up (va_up (va_up G 14 (.inl (6, (121, .inr (.inr (.inr (.inr (va_up f3 i2_2.toNatClampNeg (some x9))))))))) 15 (.inl (6, (121, .inr (.inr (.inr (.inr (va_up f22 i2_2.toNatClampNeg (some x21))))))))) 13 (.inr (.inl (5, [.ref 14, .ref 15, .int (i2_2 + 1), .int i2_3, .ref x5, .ref x17])))) x5 = .inr (.inl (10, [.ref (x5 + 1), .int i6_1, .int i6_2, .int i6_3, va_rf o6_4])) := (va_ne (ne_ob g26 g25 (by decide))).trans g26
          have g35 : (va_up (va_up (va_up G 14 (.inl (6, (121, .inr (.inr (.inr (.inr (va_up f3 i2_2.toNatClampNeg (some x9))))))))) 15 (.inl (6, (121, .inr (.inr (.inr (.inr (va_up f22 i2_2.toNatClampNeg (some x21))))))))) 13 (.inr (.inl (5, [.ref 14, .ref 15, .int (i2_2 + 1), .int i2_3, .ref x5, .ref x17])))) (x5 + 1) = .inl (6, (3, .inr (.inr (.inr (.inr f7))))) := (va_ne (ne_ao g27 g25)).trans g27
          have g36 : (va_up (va_up (va_up G 14 (.inl (6, (121, .inr (.inr (.inr (.inr (va_up f3 i2_2.toNatClampNeg (some x9))))))))) 15 (.inl (6, (121, .inr (.inr (.inr (.inr (va_up f22 i2_2.toNatClampNeg (some x21))))))))) 13 (.inr (.inl (5, [.ref 14, .ref 15, .int (i2_2 + 1), .int i2_3, .ref x5, .ref x17])))) x9 = .inr (.inl (10, [.ref (x9 + 1), .int i11_1, .int i11_2, .int i11_3, va_rf o11_4])) := (va_ne (ne_ob g28 g25 (by decide))).trans g28
          have g37 : (va_up (va_up (va_up G 14 (.inl (6, (121, .inr (.inr (.inr (.inr (va_up f3 i2_2.toNatClampNeg (some x9))))))))) 15 (.inl (6, (121, .inr (.inr (.inr (.inr (va_up f22 i2_2.toNatClampNeg (some x21))))))))) 13 (.inr (.inl (5, [.ref 14, .ref 15, .int (i2_2 + 1), .int i2_3, .ref x5, .ref x17])))) 14 = .inl (6, (121, .inr (.inr (.inr (.inr (va_up f3 i2_2.toNatClampNeg (some x9))))))) := (va_ne (ne_ao g29 g25)).trans g29
          have g38 : (va_up (va_up (va_up G 14 (.inl (6, (121, .inr (.inr (.inr (.inr (va_up f3 i2_2.toNatClampNeg (some x9))))))))) 15 (.inl (6, (121, .inr (.inr (.inr (.inr (va_up f22 i2_2.toNatClampNeg (some x21))))))))) 13 (.inr (.inl (5, [.ref 14, .ref 15, .int (i2_2 + 1), .int i2_3, .ref x5, .ref x17])))) x17 = .inr (.inl (10, [.ref (x17 + 1), .int i18_1, .int i18_2, .int i18_3, va_rf o18_4])) := (va_ne (ne_ob g30 g25 (by decide))).trans g30
          have g39 : (va_up (va_up (va_up G 14 (.inl (6, (121, .inr (.inr (.inr (.inr (va_up f3 i2_2.toNatClampNeg (some x9))))))))) 15 (.inl (6, (121, .inr (.inr (.inr (.inr (va_up f22 i2_2.toNatClampNeg (some x21))))))))) 13 (.inr (.inl (5, [.ref 14, .ref 15, .int (i2_2 + 1), .int i2_3, .ref x5, .ref x17])))) (x17 + 1) = .inl (6, (3, .inr (.inr (.inr (.inr f19))))) := (va_ne (ne_ao g31 g25)).trans g31
          have g40 : (va_up (va_up (va_up G 14 (.inl (6, (121, .inr (.inr (.inr (.inr (va_up f3 i2_2.toNatClampNeg (some x9))))))))) 15 (.inl (6, (121, .inr (.inr (.inr (.inr (va_up f22 i2_2.toNatClampNeg (some x21))))))))) 13 (.inr (.inl (5, [.ref 14, .ref 15, .int (i2_2 + 1), .int i2_3, .ref x5, .ref x17])))) x21 = .inr (.inl (10, [.ref (x21 + 1), .int i24_1, .int i24_2, .int i24_3, va_rf o24_4])) := (va_ne (ne_ob g32 g25 (by decide))).trans g32
          have g41 : (va_up (va_up (va_up G 14 (.inl (6, (121, .inr (.inr (.inr (.inr (va_up f3 i2_2.toNatClampNeg (some x9))))))))) 15 (.inl (6, (121, .inr (.inr (.inr (.inr (va_up f22 i2_2.toNatClampNeg (some x21))))))))) 13 (.inr (.inl (5, [.ref 14, .ref 15, .int (i2_2 + 1), .int i2_3, .ref x5, .ref x17])))) 15 = .inl (6, (121, .inr (.inr (.inr (.inr (va_up f22 i2_2.toNatClampNeg (some x21))))))) := (va_ne (ne_ao g33 g25)).trans g33
          have g42 : (va_up (va_up (va_up G 14 (.inl (6, (121, .inr (.inr (.inr (.inr (va_up f3 i2_2.toNatClampNeg (some x9))))))))) 15 (.inl (6, (121, .inr (.inr (.inr (.inr (va_up f22 i2_2.toNatClampNeg (some x21))))))))) 13 (.inr (.inl (5, [.ref 14, .ref 15, .int (i2_2 + 1), .int i2_3, .ref x5, .ref x17])))) 13 = .inr (.inl (5, [.ref 14, .ref 15, .int (i2_2 + 1), .int i2_3, .ref x5, .ref x17])) := up_eq
          refine w_mv (pc1 := 75) (lv1 := [(1, .int (p1 + (-1))), (0, .ref 13)]) (st1 := []) rfl rfl rfl ?_
          refine w_mv (pc1 := 10) (st1 := []) rfl rfl rfl ?_
          refine w_wk (l1 := [(0, .ref 13), (1, .int (p1 + (-1)))]) rfl ⟨rfl, rfl, trivial⟩ ?_
          refine hh d _ _ P (fun r N1 G1 kc1 ks1 q => ?_)
          exact c_acc (hP r N1 G1 _ _ q) (by omega) (by omega)
set_option maxRecDepth 20000 in
set_option maxHeartbeats 4000000 in
theorem k_82_0 {y1 : Nat} {N : Nat} {G : Nat → sx_C} {K : Option Value ⊕ Nat → Nat → (Nat → sx_C) → Nat → Nat → Prop} (hh : 5 ≤ y1 ∧ y1 < N ∧ ∃ (i1_0 : Int32) (i1_1 : Int32) (r1_2 : Nat) (o1_3 : Option Nat) (o1_4 : Option Nat), G y1 = .inr (.inl (9, [.int i1_0, .int i1_1, .ref r1_2, va_rf o1_3, va_rf o1_4])) ∧ 5 ≤ r1_2 ∧ r1_2 < N ∧ ∃ (i2_0 : Int32) (i2_1 : Int32) (i2_3 : Int32) (i2_4 : Int32), G r1_2 = .inr (.inl (7, [.int i2_0, .int i2_1, .ref (r1_2 + 1), .int i2_3, .int i2_4])) ∧ ((o1_3 = none → False) ∧ (∀ x3, o1_3 = some x3 → 5 ≤ x3 ∧ x3 < N ∧ ∃ (i4_0 : Int32) (i4_1 : Int32) (i4_3 : Int32) (i4_4 : Int32), G x3 = .inr (.inl (7, [.int i4_0, .int i4_1, .ref (x3 + 1), .int i4_3, .int i4_4])) ∧ 10 < N ∧ ∃ (i5_3 : Int32) (o5_4 : Option Nat), G 10 = .inr (.inl (3, [.ref 11, .ref 13, .ref 16, .int i5_3, va_rf o5_4])) ∧ ((((i2_4 ||| i4_4) &&& (i5_3 ^^^ (-1))).toInt = 0 → 11 < N ∧ ∃ (i7_1 : Int32) (i7_2 : Int32), G 11 = .inr (.inl (4, [.ref 12, .int i7_1, .int i7_2])) ∧ cT (60) sM_56 0 [(0, .ref 10), (1, .ref r1_2)] [] (N) G (fun r8 N8 G8 kc8 ks8 => ∃ o8 : Option Nat, r8 = .inl (some (va_rf o8)) ∧ 5 ≤ y1 ∧ y1 < N8 ∧ ∃ (i9_0 : Int32) (i9_1 : Int32) (r9_2 : Nat) (o9_3 : Option Nat) (o9_4 : Option Nat), G8 y1 = .inr (.inl (9, [.int i9_0, .int i9_1, .ref r9_2, va_rf o9_3, va_rf o9_4])) ∧ ((o9_3 = none → 10 < N8 ∧ ∃ (i11_3 : Int32) (o11_4 : Option Nat), G8 10 = .inr (.inl (3, [.ref 11, .ref 13, .ref 16, .int i11_3, va_rf o11_4])) ∧ cT (60) sM_56 0 [(0, .ref 10), (1, .null)] [] (N8) G8 (fun r12 N12 G12 kc12 ks12 => ∃ o12 : Option Nat, r12 = .inl (some (va_rf o12)) ∧ cT (61) sM_82 54 [(0, .ref 10), (1, .ref y1), (2, .int i7_1), (3, va_rf o8), (4, va_rf o12)] [] (N12) G12 (fun r N1 G1 kc1 ks1 => K r N1 G1 (kc8 + kc12 + kc1) (ks8 + ks12 + ks1)))) ∧ (∀ x10, o9_3 = some x10 → 10 < N8 ∧ ∃ (i13_3 : Int32) (o13_4 : Option Nat), G8 10 = .inr (.inl (3, [.ref 11, .ref 13, .ref 16, .int i13_3, va_rf o13_4])) ∧ cT (60) sM_56 0 [(0, .ref 10), (1, .ref x10)] [] (N8) G8 (fun r14 N14 G14 kc14 ks14 => ∃ o14 : Option Nat, r14 = .inl (some (va_rf o14)) ∧ cT (61) sM_82 54 [(0, .ref 10), (1, .ref y1), (2, .int i7_1), (3, va_rf o8), (4, va_rf o14)] [] (N14) G14 (fun r N1 G1 kc1 ks1 => K r N1 G1 (kc8 + kc14 + kc1) (ks8 + ks14 + ks1))))))) ∧ (((i2_4 ||| i4_4) &&& (i5_3 ^^^ (-1))).toInt ≠ 0 → K (.inl (some (.int 1))) (N) G (0) (0)))))) : cT (61) sM_82 0 [(0, .ref 10), (1, .ref y1)] [] N G K := by
  intro d dc ds P hP
  refine w_mv (pc1 := 1) (st1 := [.ref y1]) rfl rfl rfl ?_
  obtain ⟨b1a, b1b, i1_0, i1_1, r1_2, o1_3, o1_4, g1, hh⟩ := hh
  refine cw_gf (v := .ref r1_2) (pc1 := 4) rfl (by omega) (by omega) g1 rfl rfl ?_
  obtain ⟨b2a, b2b, i2_0, i2_1, i2_3, i2_4, g2, hh⟩ := hh
  refine cw_gf (v := .int i2_4) (pc1 := 7) rfl (by omega) (by omega) g2 rfl rfl ?_
  refine w_mv (pc1 := 8) (st1 := [.ref y1, .int i2_4]) rfl rfl rfl ?_
  refine cw_gf (v := va_rf o1_3) (pc1 := 11) rfl (by omega) (by omega) g1 rfl rfl ?_
  cases o1_3 with
  | none =>
    replace hh := hh.1 rfl
    exact hh.elim
  | some x3 =>
    replace hh := hh.2 x3 rfl
    obtain ⟨b4a, b4b, i4_0, i4_1, i4_3, i4_4, g4, hh⟩ := hh
    refine cw_gf (v := .int i4_4) (pc1 := 14) rfl (by omega) (by omega) g4 rfl rfl ?_
    refine w_mv (pc1 := 15) (st1 := [.int (i2_4 ||| i4_4)]) rfl rfl rfl ?_
    refine w_mv (pc1 := 16) (st1 := [.ref 10, .int (i2_4 ||| i4_4)]) rfl rfl rfl ?_
    obtain ⟨b5b, i5_3, o5_4, g5, hh⟩ := hh
    refine cw_gf (v := .int i5_3) (pc1 := 19) rfl (by omega) (by omega) g5 rfl rfl ?_
    refine w_mv (pc1 := 20) (st1 := [.int (-1), .int i5_3, .int (i2_4 ||| i4_4)]) rfl rfl rfl ?_
    refine w_mv (pc1 := 21) (st1 := [.int (i5_3 ^^^ (-1)), .int (i2_4 ||| i4_4)]) rfl rfl rfl ?_
    refine w_mv (pc1 := 22) (st1 := [.int ((i2_4 ||| i4_4) &&& (i5_3 ^^^ (-1)))]) rfl rfl rfl ?_
    by_cases h6 : ((i2_4 ||| i4_4) &&& (i5_3 ^^^ (-1))).toInt = 0
    ·
      replace hh := hh.1 h6
      refine w_zeq_T (pc1 := 27) rfl rfl (show ((i2_4 ||| i4_4) &&& (i5_3 ^^^ (-1))).toInt = 0 from h6) ?_
      refine w_mv (pc1 := 28) (st1 := [.ref 10]) rfl rfl rfl ?_
      refine cw_gf (v := .ref 11) (pc1 := 31) rfl (by omega) (by omega) g5 rfl rfl ?_
      obtain ⟨b7b, i7_1, i7_2, g7, hh⟩ := hh
      refine w_call (M' := sM_83) (vals := [.ref 11]) (rest := []) (lv' := [(0, .ref 11)]) rfl rfl rfl rfl rfl rfl (cH_rcv (by omega) (by omega) g7) rfl rfl rfl ?_
      refine w_mv (pc1 := 1) (st1 := [.ref 11]) rfl rfl rfl ?_
      refine cw_gf (v := .int i7_1) (pc1 := 4) rfl (by omega) (by omega) g7 rfl rfl ?_
      refine w_iret (pc1 := 34) rfl rfl rfl rfl ?_
      refine w_mv (pc1 := 35) (lv1 := [(2, .int i7_1), (0, .ref 10), (1, .ref y1)]) (st1 := []) rfl rfl rfl ?_
      refine w_mv (pc1 := 36) (st1 := [.ref 10]) rfl rfl rfl ?_
      refine w_mv (pc1 := 37) (st1 := [.ref y1, .ref 10]) rfl rfl rfl ?_
      refine cw_gf (v := .ref r1_2) (pc1 := 40) rfl (by omega) (by omega) g1 rfl rfl ?_
      refine w_call (M' := sM_56) (vals := [.ref 10, .ref r1_2]) (rest := []) (lv' := [(0, .ref 10), (1, .ref r1_2)]) rfl rfl rfl rfl rfl rfl (cH_rcv (by omega) (by omega) g5) rfl rfl rfl ?_
      refine hh _ _ _ _ (fun r8 N8 G8 kc8 ks8 hh => ?_)
      obtain ⟨o8, er8, hh⟩ := hh
      subst er8
      refine w_kr (pc1 := 43) rfl ?_
      refine w_mv (pc1 := 44) (lv1 := [(3, va_rf o8), (2, .int i7_1), (0, .ref 10), (1, .ref y1)]) (st1 := []) rfl rfl (by cases o8 <;> rfl) ?_
      refine w_mv (pc1 := 45) (st1 := [.ref 10]) rfl rfl rfl ?_
      refine w_mv (pc1 := 46) (st1 := [.ref y1, .ref 10]) rfl rfl rfl ?_
      obtain ⟨b9a, b9b, i9_0, i9_1, r9_2, o9_3, o9_4, g9, hh⟩ := hh
      refine cw_gf (v := va_rf o9_3) (pc1 := 49) rfl (by omega) (by omega) g9 rfl rfl ?_
      cases o9_3 with
      | none =>
        replace hh := hh.1 rfl
        obtain ⟨b11b, i11_3, o11_4, g11, hh⟩ := hh
        refine w_call (M' := sM_56) (vals := [.ref 10, .null]) (rest := []) (lv' := [(0, .ref 10), (1, .null)]) rfl rfl rfl rfl rfl rfl (cH_rcv (by omega) (by omega) g11) rfl rfl rfl ?_
        refine hh _ _ _ _ (fun r12 N12 G12 kc12 ks12 hh => ?_)
        obtain ⟨o12, er12, hh⟩ := hh
        subst er12
        refine w_kr (pc1 := 52) rfl ?_
        refine w_mv (pc1 := 54) (lv1 := [(4, va_rf o12), (3, va_rf o8), (2, .int i7_1), (0, .ref 10), (1, .ref y1)]) (st1 := []) rfl rfl (by cases o12 <;> cases o8 <;> rfl) ?_
        refine w_wk (l1 := [(0, .ref 10), (1, .ref y1), (2, .int i7_1), (3, va_rf o8), (4, va_rf o12)]) rfl ⟨rfl, rfl, rfl, rfl, rfl, trivial⟩ ?_
        refine hh d _ _ P (fun r N1 G1 kc1 ks1 q => ?_)
        exact c_acc (hP r N1 G1 _ _ q) (by omega) (by omega)
      | some x10 =>
        replace hh := hh.2 x10 rfl
        obtain ⟨b13b, i13_3, o13_4, g13, hh⟩ := hh
        refine w_call (M' := sM_56) (vals := [.ref 10, .ref x10]) (rest := []) (lv' := [(0, .ref 10), (1, .ref x10)]) rfl rfl rfl rfl rfl rfl (cH_rcv (by omega) (by omega) g13) rfl rfl rfl ?_
        refine hh _ _ _ _ (fun r14 N14 G14 kc14 ks14 hh => ?_)
        obtain ⟨o14, er14, hh⟩ := hh
        subst er14
        refine w_kr (pc1 := 52) rfl ?_
        refine w_mv (pc1 := 54) (lv1 := [(4, va_rf o14), (3, va_rf o8), (2, .int i7_1), (0, .ref 10), (1, .ref y1)]) (st1 := []) rfl rfl (by cases o14 <;> cases o8 <;> rfl) ?_
        refine w_wk (l1 := [(0, .ref 10), (1, .ref y1), (2, .int i7_1), (3, va_rf o8), (4, va_rf o14)]) rfl ⟨rfl, rfl, rfl, rfl, rfl, trivial⟩ ?_
        refine hh d _ _ P (fun r N1 G1 kc1 ks1 q => ?_)
        exact c_acc (hP r N1 G1 _ _ q) (by omega) (by omega)
    ·
      replace hh := hh.2 h6
      refine w_zeq_F (pc1 := 25) rfl (by decide) rfl (show ((i2_4 ||| i4_4) &&& (i5_3 ^^^ (-1))).toInt ≠ 0 from h6) ?_
      refine w_mv (pc1 := 26) (st1 := [.int 1]) rfl rfl rfl ?_
      refine sx_wp.stop rfl rfl rfl ?_
      exact c_acc (hP _ _ _ _ _ hh) (by omega) (by omega)
set_option maxRecDepth 20000 in
set_option maxHeartbeats 4000000 in
theorem k_82_54 {y1 : Nat} {p2 : Int32} {o0_3 : Option Nat} {o0_4 : Option Nat} {N : Nat} {G : Nat → sx_C} {K : Option Value ⊕ Nat → Nat → (Nat → sx_C) → Nat → Nat → Prop} (hh : 5 ≤ y1 ∧ y1 < N ∧ ∃ (i1_0 : Int32) (i1_1 : Int32) (r1_2 : Nat) (o1_3 : Option Nat) (o1_4 : Option Nat), G y1 = .inr (.inl (9, [.int i1_0, .int i1_1, .ref r1_2, va_rf o1_3, va_rf o1_4])) ∧ ((i1_0.toInt ≠ 60 → ((o0_4 = none → ((o0_3 = none → 10 < N ∧ ∃ (i16_3 : Int32) (o16_4 : Option Nat), G 10 = .inr (.inl (3, [.ref 11, .ref 13, .ref 16, .int i16_3, va_rf o16_4])) ∧ cT (3) sM_75 0 [(0, .ref 10), (1, .null), (2, .null)] [] (N) G (fun r17 N17 G17 kc17 ks17 => ∃ v17 : Int32, r17 = .inl (some (.int v17)) ∧ cT (61) sM_82 82 [(0, .ref 10), (1, .ref y1), (2, .int p2), (5, .int v17)] [] (N17) G17 (fun r N1 G1 kc1 ks1 => K r N1 G1 (kc17 + kc1) (ks17 + ks1)))) ∧ (∀ x15, o0_3 = some x15 → 10 < N ∧ ∃ (i18_3 : Int32) (o18_4 : Option Nat), G 10 = .inr (.inl (3, [.ref 11, .ref 13, .ref 16, .int i18_3, va_rf o18_4])) ∧ cT (3) sM_75 0 [(0, .ref 10), (1, .ref x15), (2, .null)] [] (N) G (fun r19 N19 G19 kc19 ks19 => ∃ v19 : Int32, r19 = .inl (some (.int v19)) ∧ cT (61) sM_82 82 [(0, .ref 10), (1, .ref y1), (2, .int p2), (5, .int v19)] [] (N19) G19 (fun r N1 G1 kc1 ks1 => K r N1 G1 (kc19 + kc1) (ks19 + ks1)))))) ∧ (∀ x14, o0_4 = some x14 → ((o0_3 = none → 10 < N ∧ ∃ (i21_3 : Int32) (o21_4 : Option Nat), G 10 = .inr (.inl (3, [.ref 11, .ref 13, .ref 16, .int i21_3, va_rf o21_4])) ∧ cT (3) sM_75 0 [(0, .ref 10), (1, .null), (2, .ref x14)] [] (N) G (fun r22 N22 G22 kc22 ks22 => ∃ v22 : Int32, r22 = .inl (some (.int v22)) ∧ cT (61) sM_82 82 [(0, .ref 10), (1, .ref y1), (2, .int p2), (5, .int v22)] [] (N22) G22 (fun r N1 G1 kc1 ks1 => K r N1 G1 (kc22 + kc1) (ks22 + ks1)))) ∧ (∀ x20, o0_3 = some x20 → 10 < N ∧ ∃ (i23_3 : Int32) (o23_4 : Option Nat), G 10 = .inr (.inl (3, [.ref 11, .ref 13, .ref 16, .int i23_3, va_rf o23_4])) ∧ cT (3) sM_75 0 [(0, .ref 10), (1, .ref x20), (2, .ref x14)] [] (N) G (fun r24 N24 G24 kc24 ks24 => ∃ v24 : Int32, r24 = .inl (some (.int v24)) ∧ cT (61) sM_82 82 [(0, .ref 10), (1, .ref y1), (2, .int p2), (5, .int v24)] [] (N24) G24 (fun r N1 G1 kc1 ks1 => K r N1 G1 (kc24 + kc1) (ks24 + ks1)))))))) ∧ (i1_0.toInt = 60 → ((o0_4 = none → ((o0_3 = none → 10 < N ∧ ∃ (i5_3 : Int32) (o5_4 : Option Nat), G 10 = .inr (.inl (3, [.ref 11, .ref 13, .ref 16, .int i5_3, va_rf o5_4])) ∧ cT (2) sM_84 0 [(0, .ref 10), (1, .null), (2, .null)] [] (N) G (fun r6 N6 G6 kc6 ks6 => ∃ v6 : Int32, r6 = .inl (some (.int v6)) ∧ cT (61) sM_82 82 [(0, .ref 10), (1, .ref y1), (2, .int p2), (5, .int v6)] [] (N6) G6 (fun r N1 G1 kc1 ks1 => K r N1 G1 (kc6 + kc1) (ks6 + ks1)))) ∧ (∀ x4, o0_3 = some x4 → 10 < N ∧ ∃ (i7_3 : Int32) (o7_4 : Option Nat), G 10 = .inr (.inl (3, [.ref 11, .ref 13, .ref 16, .int i7_3, va_rf o7_4])) ∧ cT (2) sM_84 0 [(0, .ref 10), (1, .ref x4), (2, .null)] [] (N) G (fun r8 N8 G8 kc8 ks8 => ∃ v8 : Int32, r8 = .inl (some (.int v8)) ∧ cT (61) sM_82 82 [(0, .ref 10), (1, .ref y1), (2, .int p2), (5, .int v8)] [] (N8) G8 (fun r N1 G1 kc1 ks1 => K r N1 G1 (kc8 + kc1) (ks8 + ks1)))))) ∧ (∀ x3, o0_4 = some x3 → ((o0_3 = none → 10 < N ∧ ∃ (i10_3 : Int32) (o10_4 : Option Nat), G 10 = .inr (.inl (3, [.ref 11, .ref 13, .ref 16, .int i10_3, va_rf o10_4])) ∧ cT (2) sM_84 0 [(0, .ref 10), (1, .null), (2, .ref x3)] [] (N) G (fun r11 N11 G11 kc11 ks11 => ∃ v11 : Int32, r11 = .inl (some (.int v11)) ∧ cT (61) sM_82 82 [(0, .ref 10), (1, .ref y1), (2, .int p2), (5, .int v11)] [] (N11) G11 (fun r N1 G1 kc1 ks1 => K r N1 G1 (kc11 + kc1) (ks11 + ks1)))) ∧ (∀ x9, o0_3 = some x9 → 10 < N ∧ ∃ (i12_3 : Int32) (o12_4 : Option Nat), G 10 = .inr (.inl (3, [.ref 11, .ref 13, .ref 16, .int i12_3, va_rf o12_4])) ∧ cT (2) sM_84 0 [(0, .ref 10), (1, .ref x9), (2, .ref x3)] [] (N) G (fun r13 N13 G13 kc13 ks13 => ∃ v13 : Int32, r13 = .inl (some (.int v13)) ∧ cT (61) sM_82 82 [(0, .ref 10), (1, .ref y1), (2, .int p2), (5, .int v13)] [] (N13) G13 (fun r N1 G1 kc1 ks1 => K r N1 G1 (kc13 + kc1) (ks13 + ks1)))))))))) : cT (61) sM_82 54 [(0, .ref 10), (1, .ref y1), (2, .int p2), (3, va_rf o0_3), (4, va_rf o0_4)] [] N G K := by
  intro d dc ds P hP
  refine w_mv (pc1 := 55) (st1 := [.ref y1]) rfl rfl rfl ?_
  obtain ⟨b1a, b1b, i1_0, i1_1, r1_2, o1_3, o1_4, g1, hh⟩ := hh
  refine cw_gf (v := .int i1_0) (pc1 := 58) rfl (by omega) (by omega) g1 rfl rfl ?_
  refine w_mv (pc1 := 60) (st1 := [.int 60, .int i1_0]) rfl rfl rfl ?_
  by_cases h2 : i1_0.toInt = 60
  ·
    replace hh := hh.2 h2
    refine w_ine_F (pc1 := 63) rfl (by decide) rfl (show i1_0.toInt = 60 from h2) ?_
    refine w_mv (pc1 := 64) (st1 := [.ref 10]) rfl rfl rfl ?_
    refine w_mv (pc1 := 65) (lv1 := [(0, .ref 10), (1, .ref y1), (2, .int p2), (3, va_rf o0_3), (4, va_rf o0_4)]) (st1 := [va_rf o0_3, .ref 10]) rfl rfl (by cases o0_3 <;> rfl) ?_
    refine w_mv (pc1 := 67) (lv1 := [(0, .ref 10), (1, .ref y1), (2, .int p2), (3, va_rf o0_3), (4, va_rf o0_4)]) (st1 := [va_rf o0_4, va_rf o0_3, .ref 10]) rfl rfl (by cases o0_4 <;> rfl) ?_
    cases o0_4 with
    | none =>
      replace hh := hh.1 rfl
      cases o0_3 with
      | none =>
        replace hh := hh.1 rfl
        obtain ⟨b5b, i5_3, o5_4, g5, hh⟩ := hh
        refine w_call (M' := sM_84) (vals := [.ref 10, .null, .null]) (rest := []) (lv' := [(0, .ref 10), (1, .null), (2, .null)]) rfl rfl rfl rfl rfl rfl (cH_rcv (by omega) (by omega) g5) rfl rfl rfl ?_
        refine hh _ _ _ _ (fun r6 N6 G6 kc6 ks6 hh => ?_)
        obtain ⟨v6, er6, hh⟩ := hh
        subst er6
        refine w_ki (pc1 := 70) rfl ?_
        refine w_mv (pc1 := 80) (st1 := [.int v6]) rfl rfl rfl ?_
        refine w_mv (pc1 := 82) (lv1 := [(5, .int v6), (0, .ref 10), (1, .ref y1), (2, .int p2), (3, .null), (4, .null)]) (st1 := []) rfl rfl rfl ?_
        refine w_wk (l1 := [(0, .ref 10), (1, .ref y1), (2, .int p2), (5, .int v6)]) rfl ⟨rfl, rfl, rfl, rfl, trivial⟩ ?_
        refine hh d _ _ P (fun r N1 G1 kc1 ks1 q => ?_)
        exact c_acc (hP r N1 G1 _ _ q) (by omega) (by omega)
      | some x4 =>
        replace hh := hh.2 x4 rfl
        obtain ⟨b7b, i7_3, o7_4, g7, hh⟩ := hh
        refine w_call (M' := sM_84) (vals := [.ref 10, .ref x4, .null]) (rest := []) (lv' := [(0, .ref 10), (1, .ref x4), (2, .null)]) rfl rfl rfl rfl rfl rfl (cH_rcv (by omega) (by omega) g7) rfl rfl rfl ?_
        refine hh _ _ _ _ (fun r8 N8 G8 kc8 ks8 hh => ?_)
        obtain ⟨v8, er8, hh⟩ := hh
        subst er8
        refine w_ki (pc1 := 70) rfl ?_
        refine w_mv (pc1 := 80) (st1 := [.int v8]) rfl rfl rfl ?_
        refine w_mv (pc1 := 82) (lv1 := [(5, .int v8), (0, .ref 10), (1, .ref y1), (2, .int p2), (3, .ref x4), (4, .null)]) (st1 := []) rfl rfl rfl ?_
        refine w_wk (l1 := [(0, .ref 10), (1, .ref y1), (2, .int p2), (5, .int v8)]) rfl ⟨rfl, rfl, rfl, rfl, trivial⟩ ?_
        refine hh d _ _ P (fun r N1 G1 kc1 ks1 q => ?_)
        exact c_acc (hP r N1 G1 _ _ q) (by omega) (by omega)
    | some x3 =>
      replace hh := hh.2 x3 rfl
      cases o0_3 with
      | none =>
        replace hh := hh.1 rfl
        obtain ⟨b10b, i10_3, o10_4, g10, hh⟩ := hh
        refine w_call (M' := sM_84) (vals := [.ref 10, .null, .ref x3]) (rest := []) (lv' := [(0, .ref 10), (1, .null), (2, .ref x3)]) rfl rfl rfl rfl rfl rfl (cH_rcv (by omega) (by omega) g10) rfl rfl rfl ?_
        refine hh _ _ _ _ (fun r11 N11 G11 kc11 ks11 hh => ?_)
        obtain ⟨v11, er11, hh⟩ := hh
        subst er11
        refine w_ki (pc1 := 70) rfl ?_
        refine w_mv (pc1 := 80) (st1 := [.int v11]) rfl rfl rfl ?_
        refine w_mv (pc1 := 82) (lv1 := [(5, .int v11), (0, .ref 10), (1, .ref y1), (2, .int p2), (3, .null), (4, .ref x3)]) (st1 := []) rfl rfl rfl ?_
        refine w_wk (l1 := [(0, .ref 10), (1, .ref y1), (2, .int p2), (5, .int v11)]) rfl ⟨rfl, rfl, rfl, rfl, trivial⟩ ?_
        refine hh d _ _ P (fun r N1 G1 kc1 ks1 q => ?_)
        exact c_acc (hP r N1 G1 _ _ q) (by omega) (by omega)
      | some x9 =>
        replace hh := hh.2 x9 rfl
        obtain ⟨b12b, i12_3, o12_4, g12, hh⟩ := hh
        refine w_call (M' := sM_84) (vals := [.ref 10, .ref x9, .ref x3]) (rest := []) (lv' := [(0, .ref 10), (1, .ref x9), (2, .ref x3)]) rfl rfl rfl rfl rfl rfl (cH_rcv (by omega) (by omega) g12) rfl rfl rfl ?_
        refine hh _ _ _ _ (fun r13 N13 G13 kc13 ks13 hh => ?_)
        obtain ⟨v13, er13, hh⟩ := hh
        subst er13
        refine w_ki (pc1 := 70) rfl ?_
        refine w_mv (pc1 := 80) (st1 := [.int v13]) rfl rfl rfl ?_
        refine w_mv (pc1 := 82) (lv1 := [(5, .int v13), (0, .ref 10), (1, .ref y1), (2, .int p2), (3, .ref x9), (4, .ref x3)]) (st1 := []) rfl rfl rfl ?_
        refine w_wk (l1 := [(0, .ref 10), (1, .ref y1), (2, .int p2), (5, .int v13)]) rfl ⟨rfl, rfl, rfl, rfl, trivial⟩ ?_
        refine hh d _ _ P (fun r N1 G1 kc1 ks1 q => ?_)
        exact c_acc (hP r N1 G1 _ _ q) (by omega) (by omega)
  ·
    replace hh := hh.1 h2
    refine w_ine_T (pc1 := 73) rfl rfl (show i1_0.toInt ≠ 60 from h2) ?_
    refine w_mv (pc1 := 74) (st1 := [.ref 10]) rfl rfl rfl ?_
    refine w_mv (pc1 := 75) (lv1 := [(0, .ref 10), (1, .ref y1), (2, .int p2), (3, va_rf o0_3), (4, va_rf o0_4)]) (st1 := [va_rf o0_3, .ref 10]) rfl rfl (by cases o0_3 <;> rfl) ?_
    refine w_mv (pc1 := 77) (lv1 := [(0, .ref 10), (1, .ref y1), (2, .int p2), (3, va_rf o0_3), (4, va_rf o0_4)]) (st1 := [va_rf o0_4, va_rf o0_3, .ref 10]) rfl rfl (by cases o0_4 <;> rfl) ?_
    cases o0_4 with
    | none =>
      replace hh := hh.1 rfl
      cases o0_3 with
      | none =>
        replace hh := hh.1 rfl
        obtain ⟨b16b, i16_3, o16_4, g16, hh⟩ := hh
        refine w_call (M' := sM_75) (vals := [.ref 10, .null, .null]) (rest := []) (lv' := [(0, .ref 10), (1, .null), (2, .null)]) rfl rfl rfl rfl rfl rfl (cH_rcv (by omega) (by omega) g16) rfl rfl rfl ?_
        refine hh _ _ _ _ (fun r17 N17 G17 kc17 ks17 hh => ?_)
        obtain ⟨v17, er17, hh⟩ := hh
        subst er17
        refine w_ki (pc1 := 80) rfl ?_
        refine w_mv (pc1 := 82) (lv1 := [(5, .int v17), (0, .ref 10), (1, .ref y1), (2, .int p2), (3, .null), (4, .null)]) (st1 := []) rfl rfl rfl ?_
        refine w_wk (l1 := [(0, .ref 10), (1, .ref y1), (2, .int p2), (5, .int v17)]) rfl ⟨rfl, rfl, rfl, rfl, trivial⟩ ?_
        refine hh d _ _ P (fun r N1 G1 kc1 ks1 q => ?_)
        exact c_acc (hP r N1 G1 _ _ q) (by omega) (by omega)
      | some x15 =>
        replace hh := hh.2 x15 rfl
        obtain ⟨b18b, i18_3, o18_4, g18, hh⟩ := hh
        refine w_call (M' := sM_75) (vals := [.ref 10, .ref x15, .null]) (rest := []) (lv' := [(0, .ref 10), (1, .ref x15), (2, .null)]) rfl rfl rfl rfl rfl rfl (cH_rcv (by omega) (by omega) g18) rfl rfl rfl ?_
        refine hh _ _ _ _ (fun r19 N19 G19 kc19 ks19 hh => ?_)
        obtain ⟨v19, er19, hh⟩ := hh
        subst er19
        refine w_ki (pc1 := 80) rfl ?_
        refine w_mv (pc1 := 82) (lv1 := [(5, .int v19), (0, .ref 10), (1, .ref y1), (2, .int p2), (3, .ref x15), (4, .null)]) (st1 := []) rfl rfl rfl ?_
        refine w_wk (l1 := [(0, .ref 10), (1, .ref y1), (2, .int p2), (5, .int v19)]) rfl ⟨rfl, rfl, rfl, rfl, trivial⟩ ?_
        refine hh d _ _ P (fun r N1 G1 kc1 ks1 q => ?_)
        exact c_acc (hP r N1 G1 _ _ q) (by omega) (by omega)
    | some x14 =>
      replace hh := hh.2 x14 rfl
      cases o0_3 with
      | none =>
        replace hh := hh.1 rfl
        obtain ⟨b21b, i21_3, o21_4, g21, hh⟩ := hh
        refine w_call (M' := sM_75) (vals := [.ref 10, .null, .ref x14]) (rest := []) (lv' := [(0, .ref 10), (1, .null), (2, .ref x14)]) rfl rfl rfl rfl rfl rfl (cH_rcv (by omega) (by omega) g21) rfl rfl rfl ?_
        refine hh _ _ _ _ (fun r22 N22 G22 kc22 ks22 hh => ?_)
        obtain ⟨v22, er22, hh⟩ := hh
        subst er22
        refine w_ki (pc1 := 80) rfl ?_
        refine w_mv (pc1 := 82) (lv1 := [(5, .int v22), (0, .ref 10), (1, .ref y1), (2, .int p2), (3, .null), (4, .ref x14)]) (st1 := []) rfl rfl rfl ?_
        refine w_wk (l1 := [(0, .ref 10), (1, .ref y1), (2, .int p2), (5, .int v22)]) rfl ⟨rfl, rfl, rfl, rfl, trivial⟩ ?_
        refine hh d _ _ P (fun r N1 G1 kc1 ks1 q => ?_)
        exact c_acc (hP r N1 G1 _ _ q) (by omega) (by omega)
      | some x20 =>
        replace hh := hh.2 x20 rfl
        obtain ⟨b23b, i23_3, o23_4, g23, hh⟩ := hh
        refine w_call (M' := sM_75) (vals := [.ref 10, .ref x20, .ref x14]) (rest := []) (lv' := [(0, .ref 10), (1, .ref x20), (2, .ref x14)]) rfl rfl rfl rfl rfl rfl (cH_rcv (by omega) (by omega) g23) rfl rfl rfl ?_
        refine hh _ _ _ _ (fun r24 N24 G24 kc24 ks24 hh => ?_)
        obtain ⟨v24, er24, hh⟩ := hh
        subst er24
        refine w_ki (pc1 := 80) rfl ?_
        refine w_mv (pc1 := 82) (lv1 := [(5, .int v24), (0, .ref 10), (1, .ref y1), (2, .int p2), (3, .ref x20), (4, .ref x14)]) (st1 := []) rfl rfl rfl ?_
        refine w_wk (l1 := [(0, .ref 10), (1, .ref y1), (2, .int p2), (5, .int v24)]) rfl ⟨rfl, rfl, rfl, rfl, trivial⟩ ?_
        refine hh d _ _ P (fun r N1 G1 kc1 ks1 q => ?_)
        exact c_acc (hP r N1 G1 _ _ q) (by omega) (by omega)
set_option maxRecDepth 20000 in
set_option maxHeartbeats 4000000 in
theorem k_82_82 {y1 : Nat} {p2 : Int32} {p5 : Int32} {N : Nat} {G : Nat → sx_C} {K : Option Value ⊕ Nat → Nat → (Nat → sx_C) → Nat → Nat → Prop} (hh : 10 < N ∧ ∃ (i1_3 : Int32) (o1_4 : Option Nat), G 10 = .inr (.inl (3, [.ref 11, .ref 13, .ref 16, .int i1_3, va_rf o1_4])) ∧ 11 < N ∧ ∃ (i2_1 : Int32) (i2_2 : Int32), G 11 = .inr (.inl (4, [.ref 12, .int i2_1, .int i2_2])) ∧ 5 ≤ y1 ∧ y1 < N ∧ ∃ (i5_0 : Int32) (i5_1 : Int32) (r5_2 : Nat) (o5_3 : Option Nat) (o5_4 : Option Nat), (va_up G 11 (.inr (.inl (4, [.ref 12, .int p2, .int i2_2])))) y1 = .inr (.inl (9, [.int i5_0, .int i5_1, .ref r5_2, va_rf o5_3, va_rf o5_4])) ∧ ((i5_0.toInt ≠ 126 → K (.inl (some (.int p5))) (N) (va_up G 11 (.inr (.inl (4, [.ref 12, .int p2, .int i2_2])))) (0) (0)) ∧ (i5_0.toInt = 126 → ((p5.toInt ≠ 0 → ((p5.toInt ≠ 1 → K (.inl (some (.int p5))) (N) (va_up G 11 (.inr (.inl (4, [.ref 12, .int p2, .int i2_2])))) (0) (0)) ∧ (p5.toInt = 1 → K (.inl (some (.int 0))) (N) (va_up G 11 (.inr (.inl (4, [.ref 12, .int p2, .int i2_2])))) (0) (0)))) ∧ (p5.toInt = 0 → K (.inl (some (.int 1))) (N) (va_up G 11 (.inr (.inl (4, [.ref 12, .int p2, .int i2_2])))) (0) (0)))))) : cT (61) sM_82 82 [(0, .ref 10), (1, .ref y1), (2, .int p2), (5, .int p5)] [] N G K := by
  intro d dc ds P hP
  refine w_mv (pc1 := 83) (st1 := [.ref 10]) rfl rfl rfl ?_
  obtain ⟨b1b, i1_3, o1_4, g1, hh⟩ := hh
  refine cw_gf (v := .ref 11) (pc1 := 86) rfl (by omega) (by omega) g1 rfl rfl ?_
  refine w_mv (pc1 := 87) (st1 := [.int p2, .ref 11]) rfl rfl rfl ?_
  obtain ⟨b2b, i2_1, i2_2, g2, hh⟩ := hh
  refine w_call (M' := sM_85) (vals := [.ref 11, .int p2]) (rest := []) (lv' := [(0, .ref 11), (1, .int p2)]) rfl rfl rfl rfl rfl rfl (cH_rcv (by omega) (by omega) g2) rfl rfl rfl ?_
  refine w_mv (pc1 := 1) (st1 := [.ref 11]) rfl rfl rfl ?_
  refine w_mv (pc1 := 2) (st1 := [.int p2, .ref 11]) rfl rfl rfl ?_
  refine cw_pf (c1 := .inr (.inl (4, [.ref 12, .int p2, .int i2_2]))) (pc1 := 5) rfl (by omega) (by omega) g2 rfl rfl rfl rfl ?_
  have g3 : (va_up G 11 (.inr (.inl (4, [.ref 12, .int p2, .int i2_2])))) 10 = .inr (.inl (3, [.ref 11, .ref 13, .ref 16, .int i1_3, va_rf o1_4])) := (va_ne (ne_ob g1 g2 (by decide))).trans g1
  have g4 : (va_up G 11 (.inr (.inl (4, [.ref 12, .int p2, .int i2_2])))) 11 = .inr (.inl (4, [.ref 12, .int p2, .int i2_2])) := up_eq
  refine w_vret (pc1 := 90) rfl rfl rfl ?_
  refine w_mv (pc1 := 91) (st1 := [.ref y1]) rfl rfl rfl ?_
  obtain ⟨b5a, b5b, i5_0, i5_1, r5_2, o5_3, o5_4, g5, hh⟩ := hh
  refine cw_gf (v := .int i5_0) (pc1 := 94) rfl (by omega) (by omega) g5 rfl rfl ?_
  refine w_mv (pc1 := 96) (st1 := [.int 126, .int i5_0]) rfl rfl rfl ?_
  by_cases h6 : i5_0.toInt = 126
  ·
    replace hh := hh.2 h6
    refine w_ine_F (pc1 := 99) rfl (by decide) rfl (show i5_0.toInt = 126 from h6) ?_
    refine w_mv (pc1 := 101) (st1 := [.int p5]) rfl rfl rfl ?_
    refine w_call (M' := sM_86) (vals := [.int p5]) (rest := []) (lv' := [(0, .int p5)]) rfl rfl rfl rfl rfl rfl rfl rfl rfl rfl ?_
    refine w_mv (pc1 := 1) (st1 := [.int p5]) rfl rfl rfl ?_
    by_cases h7 : p5.toInt = 0
    ·
      replace hh := hh.2 h7
      refine w_zne_F (pc1 := 4) rfl (by decide) rfl (show p5.toInt = 0 from h7) ?_
      refine w_mv (pc1 := 5) (st1 := [.int 1]) rfl rfl rfl ?_
      refine w_iret (pc1 := 104) rfl rfl rfl rfl ?_
      refine w_mv (pc1 := 109) (st1 := [.int 1]) rfl rfl rfl ?_
      refine sx_wp.stop rfl rfl rfl ?_
      exact c_acc (hP _ _ _ _ _ hh) (by omega) (by omega)
    ·
      replace hh := hh.1 h7
      refine w_zne_T (pc1 := 6) rfl rfl (show p5.toInt ≠ 0 from h7) ?_
      refine w_mv (pc1 := 7) (st1 := [.int p5]) rfl rfl rfl ?_
      refine w_mv (pc1 := 8) (st1 := [.int 1, .int p5]) rfl rfl rfl ?_
      by_cases h8 : p5.toInt = 1
      ·
        replace hh := hh.2 h8
        refine w_ine_F (pc1 := 11) rfl (by decide) rfl (show p5.toInt = 1 from h8) ?_
        refine w_mv (pc1 := 12) (st1 := [.int 0]) rfl rfl rfl ?_
        refine w_mv (pc1 := 16) (st1 := [.int 0]) rfl rfl rfl ?_
        refine w_iret (pc1 := 104) rfl rfl rfl rfl ?_
        refine w_mv (pc1 := 109) (st1 := [.int 0]) rfl rfl rfl ?_
        refine sx_wp.stop rfl rfl rfl ?_
        exact c_acc (hP _ _ _ _ _ hh) (by omega) (by omega)
      ·
        replace hh := hh.1 h8
        refine w_ine_T (pc1 := 15) rfl rfl (show p5.toInt ≠ 1 from h8) ?_
        refine w_mv (pc1 := 16) (st1 := [.int p5]) rfl rfl rfl ?_
        refine w_iret (pc1 := 104) rfl rfl rfl rfl ?_
        refine w_mv (pc1 := 109) (st1 := [.int p5]) rfl rfl rfl ?_
        refine sx_wp.stop rfl rfl rfl ?_
        exact c_acc (hP _ _ _ _ _ hh) (by omega) (by omega)
  ·
    replace hh := hh.1 h6
    refine w_ine_T (pc1 := 107) rfl rfl (show i5_0.toInt ≠ 126 from h6) ?_
    refine w_mv (pc1 := 109) (st1 := [.int p5]) rfl rfl rfl ?_
    refine sx_wp.stop rfl rfl rfl ?_
    exact c_acc (hP _ _ _ _ _ hh) (by omega) (by omega)
