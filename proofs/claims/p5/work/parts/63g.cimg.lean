/-! THE IMAGES of the class and of the JDK methods that it calls (by program: wip/sx/gen_cimg.py) -/
set_option maxRecDepth 20000 in
set_option maxHeartbeats 4000000 in
theorem k_107_4 {y1 : Nat} {p2 : Int32} {p3 : Int32} {N : Nat} {G : Nat → sx_C} {K : Option Value ⊕ Nat → Nat → (Nat → sx_C) → Nat → Nat → Prop} (hh : 9 < N ∧ ∃ (i1_5 : Int32) (i1_6 : Int32) (i1_7 : Int32), G 9 = .inr (.inl (2, [.ref 10, .ref 17, .ref 18, .ref 20, .ref 22, .int i1_5, .int i1_6, .int i1_7])) ∧ 18 < N ∧ ∃ (i2_1 : Int32), G 18 = .inr (.inl (6, [.ref 19, .int i2_1])) ∧ ((i2_1.toInt ≤ p3.toInt → K (.inl (some (.int p2))) (N) G (0) (0)) ∧ (p3.toInt < i2_1.toInt → ((p3.toInt < 0 → cT (2) sM_107 4 [(0, .ref 9), (1, .ref y1), (2, .int p2), (3, .int (p3 + 1))] [] (N) G (fun r N1 G1 kc1 ks1 => K r N1 G1 (kc1) (ks1))) ∧ (0 ≤ p3.toInt → ((i2_1.toInt ≤ p3.toInt → cT (2) sM_107 4 [(0, .ref 9), (1, .ref y1), (2, .int p2), (3, .int (p3 + 1))] [] (N) G (fun r N1 G1 kc1 ks1 => K r N1 G1 (kc1) (ks1))) ∧ (p3.toInt < i2_1.toInt → 19 < N ∧ ∃ (f6 : Nat → Option Nat), G 19 = .inl (7, (61, .inr (.inr (.inr (.inr f6))))) ∧ 0 ≤ p3.toInt ∧ p3.toInt < (61 : Nat) ∧ ∃ x8, f6 p3.toNatClampNeg = some x8 ∧ 5 ≤ x8 ∧ x8 < N ∧ ∃ (i9_0 : Int32) (i9_1 : Int32) (o9_2 : Option Nat) (o9_3 : Option Nat) (o9_4 : Option Nat) (i9_6 : Int32), G x8 = .inr (.inl (11, [.int i9_0, .int i9_1, va_rf o9_2, va_rf o9_3, va_rf o9_4, .ref (x8 + 1), .int i9_6])) ∧ cT (1) sM_90 0 [(0, .ref x8), (1, .ref y1)] [] (N) G (fun r10 N10 G10 kc10 ks10 => N = N10 ∧ G = G10 ∧ 0 = kc10 ∧ 0 = ks10 ∧ ∃ v10 : Int32, r10 = .inl (some (.int v10)) ∧ ((v10.toInt = 0 → cT (2) sM_107 4 [(0, .ref 9), (1, .ref y1), (2, .int p2), (3, .int (p3 + 1))] [] (N) G (fun r N1 G1 kc1 ks1 => K r N1 G1 (kc1) (ks1))) ∧ (v10.toInt ≠ 0 → cT (2) sM_107 4 [(0, .ref 9), (1, .ref y1), (2, .int (p2 + 1)), (3, .int (p3 + 1))] [] (N) G (fun r N1 G1 kc1 ks1 => K r N1 G1 (kc1) (ks1)))))))))))) : cT (2) sM_107 4 [(0, .ref 9), (1, .ref y1), (2, .int p2), (3, .int p3)] [] N G K := by
  intro d dc ds P hP
  refine w_mv (pc1 := 5) (st1 := [.int p3]) rfl rfl rfl ?_
  refine w_mv (pc1 := 6) (st1 := [.ref 9, .int p3]) rfl rfl rfl ?_
  obtain ⟨b1b, i1_5, i1_6, i1_7, g1, hh⟩ := hh
  refine cw_gf (v := .ref 18) (pc1 := 9) rfl (by omega) (by omega) g1 rfl rfl ?_
  obtain ⟨b2b, i2_1, g2, hh⟩ := hh
  refine w_call (M' := sM_11) (vals := [.ref 18]) (rest := [.int p3]) (lv' := [(0, .ref 18)]) rfl rfl rfl rfl rfl rfl (cH_rcv (by omega) (by omega) g2) rfl rfl rfl ?_
  refine w_mv (pc1 := 1) (st1 := [.ref 18]) rfl rfl rfl ?_
  refine cw_gf (v := .int i2_1) (pc1 := 4) rfl (by omega) (by omega) g2 rfl rfl ?_
  refine w_iret (pc1 := 12) rfl rfl rfl rfl ?_
  by_cases h3 : i2_1.toInt ≤ p3.toInt
  ·
    replace hh := hh.1 h3
    refine w_ige_T (pc1 := 48) rfl rfl (show i2_1.toInt ≤ p3.toInt from h3) ?_
    refine w_mv (pc1 := 49) (st1 := [.int p2]) rfl rfl rfl ?_
    refine sx_wp.stop rfl rfl rfl ?_
    exact c_acc (hP _ _ _ _ _ hh) (by omega) (by omega)
  ·
    replace hh := hh.2 (Int.not_le.mp h3)
    refine w_ige_F (pc1 := 15) rfl (by decide) rfl (show p3.toInt < i2_1.toInt from (Int.not_le.mp h3)) ?_
    refine w_mv (pc1 := 16) (st1 := [.ref 9]) rfl rfl rfl ?_
    refine cw_gf (v := .ref 18) (pc1 := 19) rfl (by omega) (by omega) g1 rfl rfl ?_
    refine w_mv (pc1 := 20) (st1 := [.int p3, .ref 18]) rfl rfl rfl ?_
    refine w_call (M' := sM_51) (vals := [.ref 18, .int p3]) (rest := []) (lv' := [(0, .ref 18), (1, .int p3)]) rfl rfl rfl rfl rfl rfl (cH_rcv (by omega) (by omega) g2) rfl rfl rfl ?_
    refine w_mv (pc1 := 1) (st1 := [.int p3]) rfl rfl rfl ?_
    by_cases h4 : p3.toInt < 0
    ·
      replace hh := hh.1 h4
      refine w_zlt_T (pc1 := 21) rfl rfl (show p3.toInt < 0 from h4) ?_
      refine w_mv (pc1 := 22) (st1 := [.null]) rfl rfl rfl ?_
      refine w_nret (pc1 := 23) rfl rfl rfl rfl ?_
      refine w_mv (pc1 := 25) (lv1 := [(4, .null), (0, .ref 9), (1, .ref y1), (2, .int p2), (3, .int p3)]) (st1 := []) rfl rfl rfl ?_
      refine w_mv (pc1 := 27) (st1 := [.null]) rfl rfl rfl ?_
      refine w_mv (pc1 := 42) (st1 := []) rfl rfl rfl ?_
      refine w_mv (pc1 := 45) (lv1 := [(3, .int (p3 + 1)), (4, .null), (0, .ref 9), (1, .ref y1), (2, .int p2)]) (st1 := []) rfl rfl rfl ?_
      refine w_mv (pc1 := 4) (st1 := []) rfl rfl rfl ?_
      refine w_wk (l1 := [(0, .ref 9), (1, .ref y1), (2, .int p2), (3, .int (p3 + 1))]) rfl ⟨rfl, rfl, rfl, rfl, trivial⟩ ?_
      refine hh d _ _ P (fun r N1 G1 kc1 ks1 q => ?_)
      exact c_acc (hP r N1 G1 _ _ q) (by omega) (by omega)
    ·
      replace hh := hh.2 (Int.not_lt.mp h4)
      refine w_zlt_F (pc1 := 4) rfl (by decide) rfl (show 0 ≤ p3.toInt from (Int.not_lt.mp h4)) ?_
      refine w_mv (pc1 := 5) (st1 := [.int p3]) rfl rfl rfl ?_
      refine w_mv (pc1 := 6) (st1 := [.ref 18, .int p3]) rfl rfl rfl ?_
      refine cw_gf (v := .int i2_1) (pc1 := 9) rfl (by omega) (by omega) g2 rfl rfl ?_
      by_cases h5 : i2_1.toInt ≤ p3.toInt
      ·
        replace hh := hh.1 h5
        refine w_ige_T (pc1 := 21) rfl rfl (show i2_1.toInt ≤ p3.toInt from h5) ?_
        refine w_mv (pc1 := 22) (st1 := [.null]) rfl rfl rfl ?_
        refine w_nret (pc1 := 23) rfl rfl rfl rfl ?_
        refine w_mv (pc1 := 25) (lv1 := [(4, .null), (0, .ref 9), (1, .ref y1), (2, .int p2), (3, .int p3)]) (st1 := []) rfl rfl rfl ?_
        refine w_mv (pc1 := 27) (st1 := [.null]) rfl rfl rfl ?_
        refine w_mv (pc1 := 42) (st1 := []) rfl rfl rfl ?_
        refine w_mv (pc1 := 45) (lv1 := [(3, .int (p3 + 1)), (4, .null), (0, .ref 9), (1, .ref y1), (2, .int p2)]) (st1 := []) rfl rfl rfl ?_
        refine w_mv (pc1 := 4) (st1 := []) rfl rfl rfl ?_
        refine w_wk (l1 := [(0, .ref 9), (1, .ref y1), (2, .int p2), (3, .int (p3 + 1))]) rfl ⟨rfl, rfl, rfl, rfl, trivial⟩ ?_
        refine hh d _ _ P (fun r N1 G1 kc1 ks1 q => ?_)
        exact c_acc (hP r N1 G1 _ _ q) (by omega) (by omega)
      ·
        replace hh := hh.2 (Int.not_le.mp h5)
        refine w_ige_F (pc1 := 12) rfl (by decide) rfl (show p3.toInt < i2_1.toInt from (Int.not_le.mp h5)) ?_
        refine w_mv (pc1 := 13) (st1 := [.ref 18]) rfl rfl rfl ?_
        refine cw_gf (v := .ref 19) (pc1 := 16) rfl (by omega) (by omega) g2 rfl rfl ?_
        refine w_mv (pc1 := 17) (st1 := [.int p3, .ref 19]) rfl rfl rfl ?_
        obtain ⟨b6b, f6, g6, hh⟩ := hh
        obtain ⟨q7a, q7b, hh⟩ := hh
        refine cw_ald (pc1 := 18) rfl (by omega) g6 rfl q7a q7b rfl ?_
        obtain ⟨x8, e8, hh⟩ := hh
        rw [e8]
        refine w_mv (pc1 := 22) (st1 := [.ref x8]) rfl rfl rfl ?_
        refine w_aret (pc1 := 23) rfl rfl rfl rfl ?_
        refine w_mv (pc1 := 25) (lv1 := [(4, .ref x8), (0, .ref 9), (1, .ref y1), (2, .int p2), (3, .int p3)]) (st1 := []) rfl rfl rfl ?_
        refine w_mv (pc1 := 27) (st1 := [.ref x8]) rfl rfl rfl ?_
        refine w_mv (pc1 := 30) (st1 := []) rfl rfl rfl ?_
        refine w_mv (pc1 := 32) (st1 := [.ref x8]) rfl rfl rfl ?_
        refine w_mv (pc1 := 33) (st1 := [.ref y1, .ref x8]) rfl rfl rfl ?_
        obtain ⟨b9a, b9b, i9_0, i9_1, o9_2, o9_3, o9_4, i9_6, g9, hh⟩ := hh
        refine w_call (M' := sM_90) (vals := [.ref x8, .ref y1]) (rest := []) (lv' := [(0, .ref x8), (1, .ref y1)]) rfl rfl rfl rfl rfl rfl (cH_rcv (by omega) (by omega) g9) rfl rfl rfl ?_
        refine hh _ _ _ _ (fun r10 N10 G10 kc10 ks10 hh => ?_)
        obtain ⟨eN10, eG10, ek10, es10, hh⟩ := hh
        subst eN10
        subst eG10
        subst ek10
        subst es10
        obtain ⟨v10, er10, hh⟩ := hh
        subst er10
        refine w_ki (pc1 := 36) rfl ?_
        by_cases h11 : v10.toInt = 0
        ·
          replace hh := hh.1 h11
          refine w_zeq_T (pc1 := 42) rfl rfl (show v10.toInt = 0 from h11) ?_
          refine w_mv (pc1 := 45) (lv1 := [(3, .int (p3 + 1)), (4, .ref x8), (0, .ref 9), (1, .ref y1), (2, .int p2)]) (st1 := []) rfl rfl rfl ?_
          refine w_mv (pc1 := 4) (st1 := []) rfl rfl rfl ?_
          refine w_wk (l1 := [(0, .ref 9), (1, .ref y1), (2, .int p2), (3, .int (p3 + 1))]) rfl ⟨rfl, rfl, rfl, rfl, trivial⟩ ?_
          refine hh d _ _ P (fun r N1 G1 kc1 ks1 q => ?_)
          exact c_acc (hP r N1 G1 _ _ q) (by omega) (by omega)
        ·
          replace hh := hh.2 h11
          refine w_zeq_F (pc1 := 39) rfl (by decide) rfl (show v10.toInt ≠ 0 from h11) ?_
          refine w_mv (pc1 := 42) (lv1 := [(2, .int (p2 + 1)), (4, .ref x8), (0, .ref 9), (1, .ref y1), (3, .int p3)]) (st1 := []) rfl rfl rfl ?_
          refine w_mv (pc1 := 45) (lv1 := [(3, .int (p3 + 1)), (2, .int (p2 + 1)), (4, .ref x8), (0, .ref 9), (1, .ref y1)]) (st1 := []) rfl rfl rfl ?_
          refine w_mv (pc1 := 4) (st1 := []) rfl rfl rfl ?_
          refine w_wk (l1 := [(0, .ref 9), (1, .ref y1), (2, .int (p2 + 1)), (3, .int (p3 + 1))]) rfl ⟨rfl, rfl, rfl, rfl, trivial⟩ ?_
          refine hh d _ _ P (fun r N1 G1 kc1 ks1 q => ?_)
          exact c_acc (hP r N1 G1 _ _ q) (by omega) (by omega)
