/-! THE IMAGES of the class and of the JDK methods that it calls (by program: wip/sx/gen_cimg.py) -/
set_option maxRecDepth 20000 in
set_option maxHeartbeats 4000000 in
theorem k_31_0  {N : Nat} {G : Nat → sx_C} {K : Option Value ⊕ Nat → Nat → (Nat → sx_C) → Nat → Nat → Prop} (hh : 6 < N ∧ ∃ (i1_1 : Int32) (i1_2 : Int32), G 6 = .inr (.inl (1, [.ref 7, .int i1_1, .int i1_2])) ∧ ((i1_1.toInt ≤ i1_2.toInt → ((i1_1.toInt ≤ (i1_2 + 1).toInt → 5 ≤ N ∧ K (.inl (some (.ref N))) (N + 1 + 1) (va_up (va_up (va_up (va_up (va_up G 6 (.inr (.inl (1, [.ref 7, .int i1_1, .int (i1_2 + 1)])))) N (.inr (.inl (7, [.int 0, .int 0, .null, .int 0, .int 0])))) N (.inr (.inl (7, [.int 1, .int (-48), .null, .int 0, .int 0])))) (N + 1) (.inl (8, (0, .inr (.inr (.inr (.inr (fun _ => none)))))))) N (.inr (.inl (7, [.int 1, .int (-48), .ref (N + 1), .int 0, .int 0])))) (2) (5)) ∧ ((i1_2 + 1).toInt < i1_1.toInt → 7 < N ∧ ∃ (f24 : Nat → Int32), (va_up G 6 (.inr (.inl (1, [.ref 7, .int i1_1, .int (i1_2 + 1)])))) 7 = .inl (1, (48, .inl f24)) ∧ 0 ≤ (i1_2 + 1).toInt ∧ (i1_2 + 1).toInt < (48 : Nat) ∧ (((f24 (i1_2 + 1).toNatClampNeg).toInt < 48 → 5 ≤ N ∧ K (.inl (some (.ref N))) (N + 1 + 1) (va_up (va_up (va_up (va_up (va_up G 6 (.inr (.inl (1, [.ref 7, .int i1_1, .int (i1_2 + 1)])))) N (.inr (.inl (7, [.int 0, .int 0, .null, .int 0, .int 0])))) N (.inr (.inl (7, [.int 1, .int (-48), .null, .int 0, .int 0])))) (N + 1) (.inl (8, (0, .inr (.inr (.inr (.inr (fun _ => none)))))))) N (.inr (.inl (7, [.int 1, .int (-48), .ref (N + 1), .int 0, .int 0])))) (2) (5)) ∧ (48 ≤ (f24 (i1_2 + 1).toNatClampNeg).toInt → ((57 < (f24 (i1_2 + 1).toNatClampNeg).toInt → 5 ≤ N ∧ K (.inl (some (.ref N))) (N + 1 + 1) (va_up (va_up (va_up (va_up (va_up G 6 (.inr (.inl (1, [.ref 7, .int i1_1, .int (i1_2 + 1)])))) N (.inr (.inl (7, [.int 0, .int 0, .null, .int 0, .int 0])))) N (.inr (.inl (7, [.int 1, .int (-48), .null, .int 0, .int 0])))) (N + 1) (.inl (8, (0, .inr (.inr (.inr (.inr (fun _ => none)))))))) N (.inr (.inl (7, [.int 1, .int (-48), .ref (N + 1), .int 0, .int 0])))) (2) (5)) ∧ ((f24 (i1_2 + 1).toNatClampNeg).toInt ≤ 57 → ((i1_1.toInt ≤ (i1_2 + 1).toInt → 5 ≤ N ∧ K (.inl (some (.ref N))) (N + 1 + 1) (va_up (va_up (va_up (va_up (va_up G 6 (.inr (.inl (1, [.ref 7, .int i1_1, .int (i1_2 + 1 + 1)])))) N (.inr (.inl (7, [.int 0, .int 0, .null, .int 0, .int 0])))) N (.inr (.inl (7, [.int 1, .int (-528), .null, .int 0, .int 0])))) (N + 1) (.inl (8, (0, .inr (.inr (.inr (.inr (fun _ => none)))))))) N (.inr (.inl (7, [.int 1, .int (-528), .ref (N + 1), .int 0, .int 0])))) (2) (5)) ∧ ((i1_2 + 1).toInt < i1_1.toInt → 0 ≤ (i1_2 + 1).toInt ∧ (i1_2 + 1).toInt < (48 : Nat) ∧ 5 ≤ N ∧ K (.inl (some (.ref N))) (N + 1 + 1) (va_up (va_up (va_up (va_up (va_up G 6 (.inr (.inl (1, [.ref 7, .int i1_1, .int (i1_2 + 1 + 1)])))) N (.inr (.inl (7, [.int 0, .int 0, .null, .int 0, .int 0])))) N (.inr (.inl (7, [.int 1, .int (((-480) + (f24 (i1_2 + 1).toNatClampNeg)) - 48), .null, .int 0, .int 0])))) (N + 1) (.inl (8, (0, .inr (.inr (.inr (.inr (fun _ => none)))))))) N (.inr (.inl (7, [.int 1, .int (((-480) + (f24 (i1_2 + 1).toNatClampNeg)) - 48), .ref (N + 1), .int 0, .int 0])))) (2) (5)))))))))) ∧ (i1_2.toInt < i1_1.toInt → 7 < N ∧ ∃ (f138 : Nat → Int32), G 7 = .inl (1, (48, .inl f138)) ∧ 0 ≤ i1_2.toInt ∧ i1_2.toInt < (48 : Nat) ∧ ((i1_1.toInt ≤ (i1_2 + 1).toInt → 5 ≤ N ∧ K (.inl (some (.ref N))) (N + 1 + 1) (va_up (va_up (va_up (va_up (va_up G 6 (.inr (.inl (1, [.ref 7, .int i1_1, .int (i1_2 + 1)])))) N (.inr (.inl (7, [.int 0, .int 0, .null, .int 0, .int 0])))) N (.inr (.inl (7, [.int 1, .int (f138 i1_2.toNatClampNeg - 48), .null, .int 0, .int 0])))) (N + 1) (.inl (8, (0, .inr (.inr (.inr (.inr (fun _ => none)))))))) N (.inr (.inl (7, [.int 1, .int (f138 i1_2.toNatClampNeg - 48), .ref (N + 1), .int 0, .int 0])))) (2) (5)) ∧ ((i1_2 + 1).toInt < i1_1.toInt → 0 ≤ (i1_2 + 1).toInt ∧ (i1_2 + 1).toInt < (48 : Nat) ∧ (((f138 (i1_2 + 1).toNatClampNeg).toInt < 48 → 5 ≤ N ∧ K (.inl (some (.ref N))) (N + 1 + 1) (va_up (va_up (va_up (va_up (va_up G 6 (.inr (.inl (1, [.ref 7, .int i1_1, .int (i1_2 + 1)])))) N (.inr (.inl (7, [.int 0, .int 0, .null, .int 0, .int 0])))) N (.inr (.inl (7, [.int 1, .int (f138 i1_2.toNatClampNeg - 48), .null, .int 0, .int 0])))) (N + 1) (.inl (8, (0, .inr (.inr (.inr (.inr (fun _ => none)))))))) N (.inr (.inl (7, [.int 1, .int (f138 i1_2.toNatClampNeg - 48), .ref (N + 1), .int 0, .int 0])))) (2) (5)) ∧ (48 ≤ (f138 (i1_2 + 1).toNatClampNeg).toInt → ((57 < (f138 (i1_2 + 1).toNatClampNeg).toInt → 5 ≤ N ∧ K (.inl (some (.ref N))) (N + 1 + 1) (va_up (va_up (va_up (va_up (va_up G 6 (.inr (.inl (1, [.ref 7, .int i1_1, .int (i1_2 + 1)])))) N (.inr (.inl (7, [.int 0, .int 0, .null, .int 0, .int 0])))) N (.inr (.inl (7, [.int 1, .int (f138 i1_2.toNatClampNeg - 48), .null, .int 0, .int 0])))) (N + 1) (.inl (8, (0, .inr (.inr (.inr (.inr (fun _ => none)))))))) N (.inr (.inl (7, [.int 1, .int (f138 i1_2.toNatClampNeg - 48), .ref (N + 1), .int 0, .int 0])))) (2) (5)) ∧ ((f138 (i1_2 + 1).toNatClampNeg).toInt ≤ 57 → ((i1_1.toInt ≤ (i1_2 + 1).toInt → 5 ≤ N ∧ K (.inl (some (.ref N))) (N + 1 + 1) (va_up (va_up (va_up (va_up (va_up G 6 (.inr (.inl (1, [.ref 7, .int i1_1, .int (i1_2 + 1 + 1)])))) N (.inr (.inl (7, [.int 0, .int 0, .null, .int 0, .int 0])))) N (.inr (.inl (7, [.int 1, .int ((((f138 i1_2.toNatClampNeg - 48) * 10) + 0) - 48), .null, .int 0, .int 0])))) (N + 1) (.inl (8, (0, .inr (.inr (.inr (.inr (fun _ => none)))))))) N (.inr (.inl (7, [.int 1, .int ((((f138 i1_2.toNatClampNeg - 48) * 10) + 0) - 48), .ref (N + 1), .int 0, .int 0])))) (2) (5)) ∧ ((i1_2 + 1).toInt < i1_1.toInt → 0 ≤ (i1_2 + 1).toInt ∧ (i1_2 + 1).toInt < (48 : Nat) ∧ 5 ≤ N ∧ K (.inl (some (.ref N))) (N + 1 + 1) (va_up (va_up (va_up (va_up (va_up G 6 (.inr (.inl (1, [.ref 7, .int i1_1, .int (i1_2 + 1 + 1)])))) N (.inr (.inl (7, [.int 0, .int 0, .null, .int 0, .int 0])))) N (.inr (.inl (7, [.int 1, .int ((((f138 i1_2.toNatClampNeg - 48) * 10) + (f138 (i1_2 + 1).toNatClampNeg)) - 48), .null, .int 0, .int 0])))) (N + 1) (.inl (8, (0, .inr (.inr (.inr (.inr (fun _ => none)))))))) N (.inr (.inl (7, [.int 1, .int ((((f138 i1_2.toNatClampNeg - 48) * 10) + (f138 (i1_2 + 1).toNatClampNeg)) - 48), .ref (N + 1), .int 0, .int 0])))) (2) (5)))))))))))) : cT (2) sM_31 0 [(0, .ref 6)] [] N G K := by
  intro d dc ds P hP
  refine w_mv (pc1 := 1) (st1 := [.ref 6]) rfl rfl rfl ?_
  obtain ⟨b1b, i1_1, i1_2, g1, hh⟩ := hh
  refine w_call (M' := sM_26) (vals := [.ref 6]) (rest := []) (lv' := [(0, .ref 6)]) rfl rfl rfl rfl rfl rfl (cH_rcv (by omega) (by omega) g1) rfl rfl rfl ?_
  refine w_mv (pc1 := 1) (st1 := [.ref 6]) rfl rfl rfl ?_
  refine cw_gf (v := .int i1_2) (pc1 := 4) rfl (by omega) (by omega) g1 rfl rfl ?_
  refine w_mv (pc1 := 5) (st1 := [.ref 6, .int i1_2]) rfl rfl rfl ?_
  refine cw_gf (v := .int i1_1) (pc1 := 8) rfl (by omega) (by omega) g1 rfl rfl ?_
  by_cases h2 : i1_1.toInt ≤ i1_2.toInt
  ·
    replace hh := hh.1 h2
    refine w_ige_T (pc1 := 23) rfl rfl (show i1_1.toInt ≤ i1_2.toInt from h2) ?_
    refine w_mv (pc1 := 24) (st1 := [.int 0]) rfl rfl rfl ?_
    refine w_iret (pc1 := 4) rfl rfl rfl rfl ?_
    refine w_mv (pc1 := 6) (st1 := [.int 48, .int 0]) rfl rfl rfl ?_
    refine w_mv (pc1 := 7) (st1 := [.int (-48)]) rfl rfl rfl ?_
    refine w_mv (pc1 := 8) (lv1 := [(1, .int (-48)), (0, .ref 6)]) (st1 := []) rfl rfl rfl ?_
    refine w_mv (pc1 := 9) (st1 := [.ref 6]) rfl rfl rfl ?_
    refine w_mv (pc1 := 10) (st1 := [.ref 6, .ref 6]) rfl rfl rfl ?_
    refine cw_gf (v := .int i1_2) (pc1 := 13) rfl (by omega) (by omega) g1 rfl rfl ?_
    refine w_mv (pc1 := 14) (st1 := [.int 1, .int i1_2, .ref 6]) rfl rfl rfl ?_
    refine w_mv (pc1 := 15) (st1 := [.int (i1_2 + 1), .ref 6]) rfl rfl rfl ?_
    refine cw_pf (c1 := .inr (.inl (1, [.ref 7, .int i1_1, .int (i1_2 + 1)]))) (pc1 := 18) rfl (by omega) (by omega) g1 rfl rfl rfl rfl ?_
    have g3 : (va_up G 6 (.inr (.inl (1, [.ref 7, .int i1_1, .int (i1_2 + 1)])))) 6 = .inr (.inl (1, [.ref 7, .int i1_1, .int (i1_2 + 1)])) := up_eq
    refine w_mv (pc1 := 19) (st1 := [.ref 6]) rfl rfl rfl ?_
    refine w_call (M' := sM_26) (vals := [.ref 6]) (rest := []) (lv' := [(0, .ref 6)]) rfl rfl rfl rfl rfl rfl (cH_rcv (by omega) (by omega) g3) rfl rfl rfl ?_
    refine w_mv (pc1 := 1) (st1 := [.ref 6]) rfl rfl rfl ?_
    refine cw_gf (v := .int (i1_2 + 1)) (pc1 := 4) rfl (by omega) (by omega) g3 rfl rfl ?_
    refine w_mv (pc1 := 5) (st1 := [.ref 6, .int (i1_2 + 1)]) rfl rfl rfl ?_
    refine cw_gf (v := .int i1_1) (pc1 := 8) rfl (by omega) (by omega) g3 rfl rfl ?_
    by_cases h4 : i1_1.toInt ≤ (i1_2 + 1).toInt
    ·
      replace hh := hh.1 h4
      refine w_ige_T (pc1 := 23) rfl rfl (show i1_1.toInt ≤ (i1_2 + 1).toInt from h4) ?_
      refine w_mv (pc1 := 24) (st1 := [.int 0]) rfl rfl rfl ?_
      refine w_iret (pc1 := 22) rfl rfl rfl rfl ?_
      refine w_call (M' := sM_30) (vals := [.int 0]) (rest := []) (lv' := [(0, .int 0)]) rfl rfl rfl rfl rfl rfl rfl rfl rfl rfl ?_
      refine w_mv (pc1 := 1) (st1 := [.int 0]) rfl rfl rfl ?_
      refine w_mv (pc1 := 3) (st1 := [.int 48, .int 0]) rfl rfl rfl ?_
      refine w_mv (pc1 := 16) (st1 := []) rfl rfl rfl ?_
      refine w_mv (pc1 := 17) (st1 := [.int 0]) rfl rfl rfl ?_
      refine w_iret (pc1 := 25) rfl rfl rfl rfl ?_
      refine w_mv (pc1 := 51) (st1 := []) rfl rfl rfl ?_
      obtain ⟨q5a, hh⟩ := hh
      refine cw_new (k := 5) (c1 := .inr (.inl (7, [.int 0, .int 0, .null, .int 0, .int 0]))) (pc1 := 54) rfl rfl rfl rfl ?_
      have g6 : (va_up (va_up G 6 (.inr (.inl (1, [.ref 7, .int i1_1, .int (i1_2 + 1)])))) N (.inr (.inl (7, [.int 0, .int 0, .null, .int 0, .int 0])))) 6 = .inr (.inl (1, [.ref 7, .int i1_1, .int (i1_2 + 1)])) := (va_ne (by omega)).trans g3
      have g7 : (va_up (va_up G 6 (.inr (.inl (1, [.ref 7, .int i1_1, .int (i1_2 + 1)])))) N (.inr (.inl (7, [.int 0, .int 0, .null, .int 0, .int 0])))) N = .inr (.inl (7, [.int 0, .int 0, .null, .int 0, .int 0])) := up_eq
      refine w_mv (pc1 := 55) (st1 := [.ref N, .ref N]) rfl rfl rfl ?_
      refine w_mv (pc1 := 56) (st1 := [.int 1, .ref N, .ref N]) rfl rfl rfl ?_
      refine w_mv (pc1 := 57) (st1 := [.int (-48), .int 1, .ref N, .ref N]) rfl rfl rfl ?_
      refine w_call (M' := sM_29) (vals := [.ref N, .int 1, .int (-48)]) (rest := [.ref N]) (lv' := [(0, .ref N), (1, .int 1), (2, .int (-48))]) rfl rfl rfl rfl rfl rfl rfl rfl rfl rfl ?_
      refine w_mv (pc1 := 1) (st1 := [.ref N]) rfl rfl rfl ?_
      refine w_obj (pc1 := 4) (st1 := []) rfl rfl rfl ⟨by omega, Nat.le_of_ble_eq_true rfl⟩ rfl ?_
      refine w_mv (pc1 := 5) (st1 := [.ref N]) rfl rfl rfl ?_
      refine w_mv (pc1 := 6) (st1 := [.int 1, .ref N]) rfl rfl rfl ?_
      refine cw_pf (c1 := .inr (.inl (7, [.int 1, .int 0, .null, .int 0, .int 0]))) (pc1 := 9) rfl (by omega) (by omega) g7 rfl rfl rfl rfl ?_
      have g8 : (va_up (va_up (va_up G 6 (.inr (.inl (1, [.ref 7, .int i1_1, .int (i1_2 + 1)])))) N (.inr (.inl (7, [.int 0, .int 0, .null, .int 0, .int 0])))) N (.inr (.inl (7, [.int 1, .int 0, .null, .int 0, .int 0])))) 6 = .inr (.inl (1, [.ref 7, .int i1_1, .int (i1_2 + 1)])) := (va_ne (ne_ob g6 g7 (by decide))).trans g6
      have g9 : (va_up (va_up (va_up G 6 (.inr (.inl (1, [.ref 7, .int i1_1, .int (i1_2 + 1)])))) N (.inr (.inl (7, [.int 0, .int 0, .null, .int 0, .int 0])))) N (.inr (.inl (7, [.int 1, .int 0, .null, .int 0, .int 0])))) N = .inr (.inl (7, [.int 1, .int 0, .null, .int 0, .int 0])) := up_eq
      refine w_mv (pc1 := 10) (st1 := [.ref N]) rfl rfl rfl ?_
      refine w_mv (pc1 := 11) (st1 := [.int (-48), .ref N]) rfl rfl rfl ?_
      refine cw_pf (c1 := .inr (.inl (7, [.int 1, .int (-48), .null, .int 0, .int 0]))) (pc1 := 14) rfl (by omega) (by omega) g9 rfl rfl rfl rfl ?_
      rw [va_uu]
      have g10 : (va_up (va_up (va_up G 6 (.inr (.inl (1, [.ref 7, .int i1_1, .int (i1_2 + 1)])))) N (.inr (.inl (7, [.int 0, .int 0, .null, .int 0, .int 0])))) N (.inr (.inl (7, [.int 1, .int (-48), .null, .int 0, .int 0])))) 6 = .inr (.inl (1, [.ref 7, .int i1_1, .int (i1_2 + 1)])) := (va_ne (ne_ob g8 g9 (by decide))).trans ((va_ne (ne_ob g8 g9 (by decide))).symm.trans g8)
      have g11 : (va_up (va_up (va_up G 6 (.inr (.inl (1, [.ref 7, .int i1_1, .int (i1_2 + 1)])))) N (.inr (.inl (7, [.int 0, .int 0, .null, .int 0, .int 0])))) N (.inr (.inl (7, [.int 1, .int (-48), .null, .int 0, .int 0])))) N = .inr (.inl (7, [.int 1, .int (-48), .null, .int 0, .int 0])) := up_eq
      refine w_mv (pc1 := 15) (st1 := [.ref N]) rfl rfl rfl ?_
      refine w_mv (pc1 := 16) (st1 := [.int 1, .ref N]) rfl rfl rfl ?_
      refine w_mv (pc1 := 17) (st1 := [.int 2, .int 1, .ref N]) rfl rfl rfl ?_
      refine w_mv (pc1 := 24) (st1 := [.ref N]) rfl rfl rfl ?_
      refine w_mv (pc1 := 25) (st1 := [.int 0, .ref N]) rfl rfl rfl ?_
      refine cw_newq (n := 0) (pc1 := 28) rfl rfl (by decide) (by decide) (by decide) ?_
      have g12 : (va_up (va_up (va_up (va_up G 6 (.inr (.inl (1, [.ref 7, .int i1_1, .int (i1_2 + 1)])))) N (.inr (.inl (7, [.int 0, .int 0, .null, .int 0, .int 0])))) N (.inr (.inl (7, [.int 1, .int (-48), .null, .int 0, .int 0])))) (N + 1) (.inl (8, (0, .inr (.inr (.inr (.inr (fun _ => none)))))))) 6 = .inr (.inl (1, [.ref 7, .int i1_1, .int (i1_2 + 1)])) := (va_ne (by omega)).trans g10
      have g13 : (va_up (va_up (va_up (va_up G 6 (.inr (.inl (1, [.ref 7, .int i1_1, .int (i1_2 + 1)])))) N (.inr (.inl (7, [.int 0, .int 0, .null, .int 0, .int 0])))) N (.inr (.inl (7, [.int 1, .int (-48), .null, .int 0, .int 0])))) (N + 1) (.inl (8, (0, .inr (.inr (.inr (.inr (fun _ => none)))))))) N = .inr (.inl (7, [.int 1, .int (-48), .null, .int 0, .int 0])) := (va_ne (by omega)).trans g11
      have g14 : (va_up (va_up (va_up (va_up G 6 (.inr (.inl (1, [.ref 7, .int i1_1, .int (i1_2 + 1)])))) N (.inr (.inl (7, [.int 0, .int 0, .null, .int 0, .int 0])))) N (.inr (.inl (7, [.int 1, .int (-48), .null, .int 0, .int 0])))) (N + 1) (.inl (8, (0, .inr (.inr (.inr (.inr (fun _ => none)))))))) (N + 1) = .inl (8, (0, .inr (.inr (.inr (.inr (fun _ => none)))))) := up_eq
      refine cw_pf (c1 := .inr (.inl (7, [.int 1, .int (-48), .ref (N + 1), .int 0, .int 0]))) (pc1 := 31) rfl (by omega) (by omega) g13 rfl rfl rfl rfl ?_
      have g15 : (va_up (va_up (va_up (va_up (va_up G 6 (.inr (.inl (1, [.ref 7, .int i1_1, .int (i1_2 + 1)])))) N (.inr (.inl (7, [.int 0, .int 0, .null, .int 0, .int 0])))) N (.inr (.inl (7, [.int 1, .int (-48), .null, .int 0, .int 0])))) (N + 1) (.inl (8, (0, .inr (.inr (.inr (.inr (fun _ => none)))))))) N (.inr (.inl (7, [.int 1, .int (-48), .ref (N + 1), .int 0, .int 0])))) 6 = .inr (.inl (1, [.ref 7, .int i1_1, .int (i1_2 + 1)])) := (va_ne (ne_ob g12 g13 (by decide))).trans g12
      have g16 : (va_up (va_up (va_up (va_up (va_up G 6 (.inr (.inl (1, [.ref 7, .int i1_1, .int (i1_2 + 1)])))) N (.inr (.inl (7, [.int 0, .int 0, .null, .int 0, .int 0])))) N (.inr (.inl (7, [.int 1, .int (-48), .null, .int 0, .int 0])))) (N + 1) (.inl (8, (0, .inr (.inr (.inr (.inr (fun _ => none)))))))) N (.inr (.inl (7, [.int 1, .int (-48), .ref (N + 1), .int 0, .int 0])))) (N + 1) = .inl (8, (0, .inr (.inr (.inr (.inr (fun _ => none)))))) := (va_ne (ne_ao g14 g13)).trans g14
      have g17 : (va_up (va_up (va_up (va_up (va_up G 6 (.inr (.inl (1, [.ref 7, .int i1_1, .int (i1_2 + 1)])))) N (.inr (.inl (7, [.int 0, .int 0, .null, .int 0, .int 0])))) N (.inr (.inl (7, [.int 1, .int (-48), .null, .int 0, .int 0])))) (N + 1) (.inl (8, (0, .inr (.inr (.inr (.inr (fun _ => none)))))))) N (.inr (.inl (7, [.int 1, .int (-48), .ref (N + 1), .int 0, .int 0])))) N = .inr (.inl (7, [.int 1, .int (-48), .ref (N + 1), .int 0, .int 0])) := up_eq
      refine w_mv (pc1 := 32) (st1 := [.ref N]) rfl rfl rfl ?_
      refine w_mv (pc1 := 33) (st1 := [.int 0, .ref N]) rfl rfl rfl ?_
      refine cw_pf (c1 := .inr (.inl (7, [.int 1, .int (-48), .ref (N + 1), .int 0, .int 0]))) (pc1 := 36) rfl (by omega) (by omega) g17 rfl rfl rfl rfl ?_
      rw [va_uu]
      have g18 : (va_up (va_up (va_up (va_up (va_up G 6 (.inr (.inl (1, [.ref 7, .int i1_1, .int (i1_2 + 1)])))) N (.inr (.inl (7, [.int 0, .int 0, .null, .int 0, .int 0])))) N (.inr (.inl (7, [.int 1, .int (-48), .null, .int 0, .int 0])))) (N + 1) (.inl (8, (0, .inr (.inr (.inr (.inr (fun _ => none)))))))) N (.inr (.inl (7, [.int 1, .int (-48), .ref (N + 1), .int 0, .int 0])))) 6 = .inr (.inl (1, [.ref 7, .int i1_1, .int (i1_2 + 1)])) := (va_ne (ne_ob g15 g17 (by decide))).trans ((va_ne (ne_ob g15 g17 (by decide))).symm.trans g15)
      have g19 : (va_up (va_up (va_up (va_up (va_up G 6 (.inr (.inl (1, [.ref 7, .int i1_1, .int (i1_2 + 1)])))) N (.inr (.inl (7, [.int 0, .int 0, .null, .int 0, .int 0])))) N (.inr (.inl (7, [.int 1, .int (-48), .null, .int 0, .int 0])))) (N + 1) (.inl (8, (0, .inr (.inr (.inr (.inr (fun _ => none)))))))) N (.inr (.inl (7, [.int 1, .int (-48), .ref (N + 1), .int 0, .int 0])))) (N + 1) = .inl (8, (0, .inr (.inr (.inr (.inr (fun _ => none)))))) := (va_ne (ne_ao g16 g17)).trans ((va_ne (ne_ao g16 g17)).symm.trans g16)
      have g20 : (va_up (va_up (va_up (va_up (va_up G 6 (.inr (.inl (1, [.ref 7, .int i1_1, .int (i1_2 + 1)])))) N (.inr (.inl (7, [.int 0, .int 0, .null, .int 0, .int 0])))) N (.inr (.inl (7, [.int 1, .int (-48), .null, .int 0, .int 0])))) (N + 1) (.inl (8, (0, .inr (.inr (.inr (.inr (fun _ => none)))))))) N (.inr (.inl (7, [.int 1, .int (-48), .ref (N + 1), .int 0, .int 0])))) N = .inr (.inl (7, [.int 1, .int (-48), .ref (N + 1), .int 0, .int 0])) := up_eq
      refine w_mv (pc1 := 37) (st1 := [.ref N]) rfl rfl rfl ?_
      refine w_mv (pc1 := 38) (st1 := [.int 1, .ref N]) rfl rfl rfl ?_
      refine w_mv (pc1 := 47) (st1 := [.ref N]) rfl rfl rfl ?_
      refine w_mv (pc1 := 48) (st1 := [.int 0, .ref N]) rfl rfl rfl ?_
      refine cw_pf (c1 := .inr (.inl (7, [.int 1, .int (-48), .ref (N + 1), .int 0, .int 0]))) (pc1 := 51) rfl (by omega) (by omega) g20 rfl rfl rfl rfl ?_
      rw [va_uu]
      have g21 : (va_up (va_up (va_up (va_up (va_up G 6 (.inr (.inl (1, [.ref 7, .int i1_1, .int (i1_2 + 1)])))) N (.inr (.inl (7, [.int 0, .int 0, .null, .int 0, .int 0])))) N (.inr (.inl (7, [.int 1, .int (-48), .null, .int 0, .int 0])))) (N + 1) (.inl (8, (0, .inr (.inr (.inr (.inr (fun _ => none)))))))) N (.inr (.inl (7, [.int 1, .int (-48), .ref (N + 1), .int 0, .int 0])))) 6 = .inr (.inl (1, [.ref 7, .int i1_1, .int (i1_2 + 1)])) := (va_ne (ne_ob g18 g20 (by decide))).trans ((va_ne (ne_ob g18 g20 (by decide))).symm.trans g18)
      have g22 : (va_up (va_up (va_up (va_up (va_up G 6 (.inr (.inl (1, [.ref 7, .int i1_1, .int (i1_2 + 1)])))) N (.inr (.inl (7, [.int 0, .int 0, .null, .int 0, .int 0])))) N (.inr (.inl (7, [.int 1, .int (-48), .null, .int 0, .int 0])))) (N + 1) (.inl (8, (0, .inr (.inr (.inr (.inr (fun _ => none)))))))) N (.inr (.inl (7, [.int 1, .int (-48), .ref (N + 1), .int 0, .int 0])))) (N + 1) = .inl (8, (0, .inr (.inr (.inr (.inr (fun _ => none)))))) := (va_ne (ne_ao g19 g20)).trans ((va_ne (ne_ao g19 g20)).symm.trans g19)
      have g23 : (va_up (va_up (va_up (va_up (va_up G 6 (.inr (.inl (1, [.ref 7, .int i1_1, .int (i1_2 + 1)])))) N (.inr (.inl (7, [.int 0, .int 0, .null, .int 0, .int 0])))) N (.inr (.inl (7, [.int 1, .int (-48), .null, .int 0, .int 0])))) (N + 1) (.inl (8, (0, .inr (.inr (.inr (.inr (fun _ => none)))))))) N (.inr (.inl (7, [.int 1, .int (-48), .ref (N + 1), .int 0, .int 0])))) N = .inr (.inl (7, [.int 1, .int (-48), .ref (N + 1), .int 0, .int 0])) := up_eq
      refine w_vret (pc1 := 60) rfl rfl rfl ?_
      refine sx_wp.stop rfl rfl rfl ?_
      exact c_acc (hP _ _ _ _ _ hh) (by omega) (by omega)
    ·
      replace hh := hh.2 (Int.not_le.mp h4)
      refine w_ige_F (pc1 := 11) rfl (by decide) rfl (show (i1_2 + 1).toInt < i1_1.toInt from (Int.not_le.mp h4)) ?_
      refine w_mv (pc1 := 12) (st1 := [.ref 6]) rfl rfl rfl ?_
      refine cw_gf (v := .ref 7) (pc1 := 15) rfl (by omega) (by omega) g3 rfl rfl ?_
      refine w_mv (pc1 := 16) (st1 := [.ref 6, .ref 7]) rfl rfl rfl ?_
      refine cw_gf (v := .int (i1_2 + 1)) (pc1 := 19) rfl (by omega) (by omega) g3 rfl rfl ?_
      obtain ⟨b24b, f24, g24, hh⟩ := hh
      obtain ⟨q25a, q25b, hh⟩ := hh
      refine cw_bld (pc1 := 20) rfl (by omega) g24 q25a q25b rfl ?_
      refine w_mv (pc1 := 24) (st1 := [.int (f24 (i1_2 + 1).toNatClampNeg)]) rfl rfl rfl ?_
      refine w_iret (pc1 := 22) rfl rfl rfl rfl ?_
      refine w_call (M' := sM_30) (vals := [.int (f24 (i1_2 + 1).toNatClampNeg)]) (rest := []) (lv' := [(0, .int (f24 (i1_2 + 1).toNatClampNeg))]) rfl rfl rfl rfl rfl rfl rfl rfl rfl rfl ?_
      refine w_mv (pc1 := 1) (st1 := [.int (f24 (i1_2 + 1).toNatClampNeg)]) rfl rfl rfl ?_
      refine w_mv (pc1 := 3) (st1 := [.int 48, .int (f24 (i1_2 + 1).toNatClampNeg)]) rfl rfl rfl ?_
      by_cases h26 : (f24 (i1_2 + 1).toNatClampNeg).toInt < 48
      ·
        replace hh := hh.1 h26
        refine w_ilt_T (pc1 := 16) rfl rfl (show (f24 (i1_2 + 1).toNatClampNeg).toInt < 48 from h26) ?_
        refine w_mv (pc1 := 17) (st1 := [.int 0]) rfl rfl rfl ?_
        refine w_iret (pc1 := 25) rfl rfl rfl rfl ?_
        refine w_mv (pc1 := 51) (st1 := []) rfl rfl rfl ?_
        obtain ⟨q27a, hh⟩ := hh
        refine cw_new (k := 5) (c1 := .inr (.inl (7, [.int 0, .int 0, .null, .int 0, .int 0]))) (pc1 := 54) rfl rfl rfl rfl ?_
        have g28 : (va_up (va_up G 6 (.inr (.inl (1, [.ref 7, .int i1_1, .int (i1_2 + 1)])))) N (.inr (.inl (7, [.int 0, .int 0, .null, .int 0, .int 0])))) 6 = .inr (.inl (1, [.ref 7, .int i1_1, .int (i1_2 + 1)])) := (va_ne (by omega)).trans g3
        have g29 : (va_up (va_up G 6 (.inr (.inl (1, [.ref 7, .int i1_1, .int (i1_2 + 1)])))) N (.inr (.inl (7, [.int 0, .int 0, .null, .int 0, .int 0])))) 7 = .inl (1, (48, .inl f24)) := (va_ne (by omega)).trans g24
        have g30 : (va_up (va_up G 6 (.inr (.inl (1, [.ref 7, .int i1_1, .int (i1_2 + 1)])))) N (.inr (.inl (7, [.int 0, .int 0, .null, .int 0, .int 0])))) N = .inr (.inl (7, [.int 0, .int 0, .null, .int 0, .int 0])) := up_eq
        refine w_mv (pc1 := 55) (st1 := [.ref N, .ref N]) rfl rfl rfl ?_
        refine w_mv (pc1 := 56) (st1 := [.int 1, .ref N, .ref N]) rfl rfl rfl ?_
        refine w_mv (pc1 := 57) (st1 := [.int (-48), .int 1, .ref N, .ref N]) rfl rfl rfl ?_
        refine w_call (M' := sM_29) (vals := [.ref N, .int 1, .int (-48)]) (rest := [.ref N]) (lv' := [(0, .ref N), (1, .int 1), (2, .int (-48))]) rfl rfl rfl rfl rfl rfl rfl rfl rfl rfl ?_
        refine w_mv (pc1 := 1) (st1 := [.ref N]) rfl rfl rfl ?_
        refine w_obj (pc1 := 4) (st1 := []) rfl rfl rfl ⟨by omega, Nat.le_of_ble_eq_true rfl⟩ rfl ?_
        refine w_mv (pc1 := 5) (st1 := [.ref N]) rfl rfl rfl ?_
        refine w_mv (pc1 := 6) (st1 := [.int 1, .ref N]) rfl rfl rfl ?_
        refine cw_pf (c1 := .inr (.inl (7, [.int 1, .int 0, .null, .int 0, .int 0]))) (pc1 := 9) rfl (by omega) (by omega) g30 rfl rfl rfl rfl ?_
        have g31 : (va_up (va_up (va_up G 6 (.inr (.inl (1, [.ref 7, .int i1_1, .int (i1_2 + 1)])))) N (.inr (.inl (7, [.int 0, .int 0, .null, .int 0, .int 0])))) N (.inr (.inl (7, [.int 1, .int 0, .null, .int 0, .int 0])))) 6 = .inr (.inl (1, [.ref 7, .int i1_1, .int (i1_2 + 1)])) := (va_ne (ne_ob g28 g30 (by decide))).trans g28
        have g32 : (va_up (va_up (va_up G 6 (.inr (.inl (1, [.ref 7, .int i1_1, .int (i1_2 + 1)])))) N (.inr (.inl (7, [.int 0, .int 0, .null, .int 0, .int 0])))) N (.inr (.inl (7, [.int 1, .int 0, .null, .int 0, .int 0])))) 7 = .inl (1, (48, .inl f24)) := (va_ne (ne_ao g29 g30)).trans g29
        have g33 : (va_up (va_up (va_up G 6 (.inr (.inl (1, [.ref 7, .int i1_1, .int (i1_2 + 1)])))) N (.inr (.inl (7, [.int 0, .int 0, .null, .int 0, .int 0])))) N (.inr (.inl (7, [.int 1, .int 0, .null, .int 0, .int 0])))) N = .inr (.inl (7, [.int 1, .int 0, .null, .int 0, .int 0])) := up_eq
        refine w_mv (pc1 := 10) (st1 := [.ref N]) rfl rfl rfl ?_
        refine w_mv (pc1 := 11) (st1 := [.int (-48), .ref N]) rfl rfl rfl ?_
        refine cw_pf (c1 := .inr (.inl (7, [.int 1, .int (-48), .null, .int 0, .int 0]))) (pc1 := 14) rfl (by omega) (by omega) g33 rfl rfl rfl rfl ?_
        rw [va_uu]
        have g34 : (va_up (va_up (va_up G 6 (.inr (.inl (1, [.ref 7, .int i1_1, .int (i1_2 + 1)])))) N (.inr (.inl (7, [.int 0, .int 0, .null, .int 0, .int 0])))) N (.inr (.inl (7, [.int 1, .int (-48), .null, .int 0, .int 0])))) 6 = .inr (.inl (1, [.ref 7, .int i1_1, .int (i1_2 + 1)])) := (va_ne (ne_ob g31 g33 (by decide))).trans ((va_ne (ne_ob g31 g33 (by decide))).symm.trans g31)
        have g35 : (va_up (va_up (va_up G 6 (.inr (.inl (1, [.ref 7, .int i1_1, .int (i1_2 + 1)])))) N (.inr (.inl (7, [.int 0, .int 0, .null, .int 0, .int 0])))) N (.inr (.inl (7, [.int 1, .int (-48), .null, .int 0, .int 0])))) 7 = .inl (1, (48, .inl f24)) := (va_ne (ne_ao g32 g33)).trans ((va_ne (ne_ao g32 g33)).symm.trans g32)
        have g36 : (va_up (va_up (va_up G 6 (.inr (.inl (1, [.ref 7, .int i1_1, .int (i1_2 + 1)])))) N (.inr (.inl (7, [.int 0, .int 0, .null, .int 0, .int 0])))) N (.inr (.inl (7, [.int 1, .int (-48), .null, .int 0, .int 0])))) N = .inr (.inl (7, [.int 1, .int (-48), .null, .int 0, .int 0])) := up_eq
        refine w_mv (pc1 := 15) (st1 := [.ref N]) rfl rfl rfl ?_
        refine w_mv (pc1 := 16) (st1 := [.int 1, .ref N]) rfl rfl rfl ?_
        refine w_mv (pc1 := 17) (st1 := [.int 2, .int 1, .ref N]) rfl rfl rfl ?_
        refine w_mv (pc1 := 24) (st1 := [.ref N]) rfl rfl rfl ?_
        refine w_mv (pc1 := 25) (st1 := [.int 0, .ref N]) rfl rfl rfl ?_
        refine cw_newq (n := 0) (pc1 := 28) rfl rfl (by decide) (by decide) (by decide) ?_
        have g37 : (va_up (va_up (va_up (va_up G 6 (.inr (.inl (1, [.ref 7, .int i1_1, .int (i1_2 + 1)])))) N (.inr (.inl (7, [.int 0, .int 0, .null, .int 0, .int 0])))) N (.inr (.inl (7, [.int 1, .int (-48), .null, .int 0, .int 0])))) (N + 1) (.inl (8, (0, .inr (.inr (.inr (.inr (fun _ => none)))))))) 6 = .inr (.inl (1, [.ref 7, .int i1_1, .int (i1_2 + 1)])) := (va_ne (by omega)).trans g34
        have g38 : (va_up (va_up (va_up (va_up G 6 (.inr (.inl (1, [.ref 7, .int i1_1, .int (i1_2 + 1)])))) N (.inr (.inl (7, [.int 0, .int 0, .null, .int 0, .int 0])))) N (.inr (.inl (7, [.int 1, .int (-48), .null, .int 0, .int 0])))) (N + 1) (.inl (8, (0, .inr (.inr (.inr (.inr (fun _ => none)))))))) 7 = .inl (1, (48, .inl f24)) := (va_ne (by omega)).trans g35
        have g39 : (va_up (va_up (va_up (va_up G 6 (.inr (.inl (1, [.ref 7, .int i1_1, .int (i1_2 + 1)])))) N (.inr (.inl (7, [.int 0, .int 0, .null, .int 0, .int 0])))) N (.inr (.inl (7, [.int 1, .int (-48), .null, .int 0, .int 0])))) (N + 1) (.inl (8, (0, .inr (.inr (.inr (.inr (fun _ => none)))))))) N = .inr (.inl (7, [.int 1, .int (-48), .null, .int 0, .int 0])) := (va_ne (by omega)).trans g36
        have g40 : (va_up (va_up (va_up (va_up G 6 (.inr (.inl (1, [.ref 7, .int i1_1, .int (i1_2 + 1)])))) N (.inr (.inl (7, [.int 0, .int 0, .null, .int 0, .int 0])))) N (.inr (.inl (7, [.int 1, .int (-48), .null, .int 0, .int 0])))) (N + 1) (.inl (8, (0, .inr (.inr (.inr (.inr (fun _ => none)))))))) (N + 1) = .inl (8, (0, .inr (.inr (.inr (.inr (fun _ => none)))))) := up_eq
        refine cw_pf (c1 := .inr (.inl (7, [.int 1, .int (-48), .ref (N + 1), .int 0, .int 0]))) (pc1 := 31) rfl (by omega) (by omega) g39 rfl rfl rfl rfl ?_
        have g41 : (va_up (va_up (va_up (va_up (va_up G 6 (.inr (.inl (1, [.ref 7, .int i1_1, .int (i1_2 + 1)])))) N (.inr (.inl (7, [.int 0, .int 0, .null, .int 0, .int 0])))) N (.inr (.inl (7, [.int 1, .int (-48), .null, .int 0, .int 0])))) (N + 1) (.inl (8, (0, .inr (.inr (.inr (.inr (fun _ => none)))))))) N (.inr (.inl (7, [.int 1, .int (-48), .ref (N + 1), .int 0, .int 0])))) 6 = .inr (.inl (1, [.ref 7, .int i1_1, .int (i1_2 + 1)])) := (va_ne (ne_ob g37 g39 (by decide))).trans g37
        have g42 : (va_up (va_up (va_up (va_up (va_up G 6 (.inr (.inl (1, [.ref 7, .int i1_1, .int (i1_2 + 1)])))) N (.inr (.inl (7, [.int 0, .int 0, .null, .int 0, .int 0])))) N (.inr (.inl (7, [.int 1, .int (-48), .null, .int 0, .int 0])))) (N + 1) (.inl (8, (0, .inr (.inr (.inr (.inr (fun _ => none)))))))) N (.inr (.inl (7, [.int 1, .int (-48), .ref (N + 1), .int 0, .int 0])))) 7 = .inl (1, (48, .inl f24)) := (va_ne (ne_ao g38 g39)).trans g38
        have g43 : (va_up (va_up (va_up (va_up (va_up G 6 (.inr (.inl (1, [.ref 7, .int i1_1, .int (i1_2 + 1)])))) N (.inr (.inl (7, [.int 0, .int 0, .null, .int 0, .int 0])))) N (.inr (.inl (7, [.int 1, .int (-48), .null, .int 0, .int 0])))) (N + 1) (.inl (8, (0, .inr (.inr (.inr (.inr (fun _ => none)))))))) N (.inr (.inl (7, [.int 1, .int (-48), .ref (N + 1), .int 0, .int 0])))) (N + 1) = .inl (8, (0, .inr (.inr (.inr (.inr (fun _ => none)))))) := (va_ne (ne_ao g40 g39)).trans g40
        have g44 : (va_up (va_up (va_up (va_up (va_up G 6 (.inr (.inl (1, [.ref 7, .int i1_1, .int (i1_2 + 1)])))) N (.inr (.inl (7, [.int 0, .int 0, .null, .int 0, .int 0])))) N (.inr (.inl (7, [.int 1, .int (-48), .null, .int 0, .int 0])))) (N + 1) (.inl (8, (0, .inr (.inr (.inr (.inr (fun _ => none)))))))) N (.inr (.inl (7, [.int 1, .int (-48), .ref (N + 1), .int 0, .int 0])))) N = .inr (.inl (7, [.int 1, .int (-48), .ref (N + 1), .int 0, .int 0])) := up_eq
        refine w_mv (pc1 := 32) (st1 := [.ref N]) rfl rfl rfl ?_
        refine w_mv (pc1 := 33) (st1 := [.int 0, .ref N]) rfl rfl rfl ?_
        refine cw_pf (c1 := .inr (.inl (7, [.int 1, .int (-48), .ref (N + 1), .int 0, .int 0]))) (pc1 := 36) rfl (by omega) (by omega) g44 rfl rfl rfl rfl ?_
        rw [va_uu]
        have g45 : (va_up (va_up (va_up (va_up (va_up G 6 (.inr (.inl (1, [.ref 7, .int i1_1, .int (i1_2 + 1)])))) N (.inr (.inl (7, [.int 0, .int 0, .null, .int 0, .int 0])))) N (.inr (.inl (7, [.int 1, .int (-48), .null, .int 0, .int 0])))) (N + 1) (.inl (8, (0, .inr (.inr (.inr (.inr (fun _ => none)))))))) N (.inr (.inl (7, [.int 1, .int (-48), .ref (N + 1), .int 0, .int 0])))) 6 = .inr (.inl (1, [.ref 7, .int i1_1, .int (i1_2 + 1)])) := (va_ne (ne_ob g41 g44 (by decide))).trans ((va_ne (ne_ob g41 g44 (by decide))).symm.trans g41)
        have g46 : (va_up (va_up (va_up (va_up (va_up G 6 (.inr (.inl (1, [.ref 7, .int i1_1, .int (i1_2 + 1)])))) N (.inr (.inl (7, [.int 0, .int 0, .null, .int 0, .int 0])))) N (.inr (.inl (7, [.int 1, .int (-48), .null, .int 0, .int 0])))) (N + 1) (.inl (8, (0, .inr (.inr (.inr (.inr (fun _ => none)))))))) N (.inr (.inl (7, [.int 1, .int (-48), .ref (N + 1), .int 0, .int 0])))) 7 = .inl (1, (48, .inl f24)) := (va_ne (ne_ao g42 g44)).trans ((va_ne (ne_ao g42 g44)).symm.trans g42)
        have g47 : (va_up (va_up (va_up (va_up (va_up G 6 (.inr (.inl (1, [.ref 7, .int i1_1, .int (i1_2 + 1)])))) N (.inr (.inl (7, [.int 0, .int 0, .null, .int 0, .int 0])))) N (.inr (.inl (7, [.int 1, .int (-48), .null, .int 0, .int 0])))) (N + 1) (.inl (8, (0, .inr (.inr (.inr (.inr (fun _ => none)))))))) N (.inr (.inl (7, [.int 1, .int (-48), .ref (N + 1), .int 0, .int 0])))) (N + 1) = .inl (8, (0, .inr (.inr (.inr (.inr (fun _ => none)))))) := (va_ne (ne_ao g43 g44)).trans ((va_ne (ne_ao g43 g44)).symm.trans g43)
        have g48 : (va_up (va_up (va_up (va_up (va_up G 6 (.inr (.inl (1, [.ref 7, .int i1_1, .int (i1_2 + 1)])))) N (.inr (.inl (7, [.int 0, .int 0, .null, .int 0, .int 0])))) N (.inr (.inl (7, [.int 1, .int (-48), .null, .int 0, .int 0])))) (N + 1) (.inl (8, (0, .inr (.inr (.inr (.inr (fun _ => none)))))))) N (.inr (.inl (7, [.int 1, .int (-48), .ref (N + 1), .int 0, .int 0])))) N = .inr (.inl (7, [.int 1, .int (-48), .ref (N + 1), .int 0, .int 0])) := up_eq
        refine w_mv (pc1 := 37) (st1 := [.ref N]) rfl rfl rfl ?_
        refine w_mv (pc1 := 38) (st1 := [.int 1, .ref N]) rfl rfl rfl ?_
        refine w_mv (pc1 := 47) (st1 := [.ref N]) rfl rfl rfl ?_
        refine w_mv (pc1 := 48) (st1 := [.int 0, .ref N]) rfl rfl rfl ?_
        refine cw_pf (c1 := .inr (.inl (7, [.int 1, .int (-48), .ref (N + 1), .int 0, .int 0]))) (pc1 := 51) rfl (by omega) (by omega) g48 rfl rfl rfl rfl ?_
        rw [va_uu]
        have g49 : (va_up (va_up (va_up (va_up (va_up G 6 (.inr (.inl (1, [.ref 7, .int i1_1, .int (i1_2 + 1)])))) N (.inr (.inl (7, [.int 0, .int 0, .null, .int 0, .int 0])))) N (.inr (.inl (7, [.int 1, .int (-48), .null, .int 0, .int 0])))) (N + 1) (.inl (8, (0, .inr (.inr (.inr (.inr (fun _ => none)))))))) N (.inr (.inl (7, [.int 1, .int (-48), .ref (N + 1), .int 0, .int 0])))) 6 = .inr (.inl (1, [.ref 7, .int i1_1, .int (i1_2 + 1)])) := (va_ne (ne_ob g45 g48 (by decide))).trans ((va_ne (ne_ob g45 g48 (by decide))).symm.trans g45)
        have g50 : (va_up (va_up (va_up (va_up (va_up G 6 (.inr (.inl (1, [.ref 7, .int i1_1, .int (i1_2 + 1)])))) N (.inr (.inl (7, [.int 0, .int 0, .null, .int 0, .int 0])))) N (.inr (.inl (7, [.int 1, .int (-48), .null, .int 0, .int 0])))) (N + 1) (.inl (8, (0, .inr (.inr (.inr (.inr (fun _ => none)))))))) N (.inr (.inl (7, [.int 1, .int (-48), .ref (N + 1), .int 0, .int 0])))) 7 = .inl (1, (48, .inl f24)) := (va_ne (ne_ao g46 g48)).trans ((va_ne (ne_ao g46 g48)).symm.trans g46)
        have g51 : (va_up (va_up (va_up (va_up (va_up G 6 (.inr (.inl (1, [.ref 7, .int i1_1, .int (i1_2 + 1)])))) N (.inr (.inl (7, [.int 0, .int 0, .null, .int 0, .int 0])))) N (.inr (.inl (7, [.int 1, .int (-48), .null, .int 0, .int 0])))) (N + 1) (.inl (8, (0, .inr (.inr (.inr (.inr (fun _ => none)))))))) N (.inr (.inl (7, [.int 1, .int (-48), .ref (N + 1), .int 0, .int 0])))) (N + 1) = .inl (8, (0, .inr (.inr (.inr (.inr (fun _ => none)))))) := (va_ne (ne_ao g47 g48)).trans ((va_ne (ne_ao g47 g48)).symm.trans g47)
        have g52 : (va_up (va_up (va_up (va_up (va_up G 6 (.inr (.inl (1, [.ref 7, .int i1_1, .int (i1_2 + 1)])))) N (.inr (.inl (7, [.int 0, .int 0, .null, .int 0, .int 0])))) N (.inr (.inl (7, [.int 1, .int (-48), .null, .int 0, .int 0])))) (N + 1) (.inl (8, (0, .inr (.inr (.inr (.inr (fun _ => none)))))))) N (.inr (.inl (7, [.int 1, .int (-48), .ref (N + 1), .int 0, .int 0])))) N = .inr (.inl (7, [.int 1, .int (-48), .ref (N + 1), .int 0, .int 0])) := up_eq
        refine w_vret (pc1 := 60) rfl rfl rfl ?_
        refine sx_wp.stop rfl rfl rfl ?_
        exact c_acc (hP _ _ _ _ _ hh) (by omega) (by omega)
      ·
        replace hh := hh.2 (Int.not_lt.mp h26)
        refine w_ilt_F (pc1 := 6) rfl (by decide) rfl (show 48 ≤ (f24 (i1_2 + 1).toNatClampNeg).toInt from (Int.not_lt.mp h26)) ?_
        refine w_mv (pc1 := 7) (st1 := [.int (f24 (i1_2 + 1).toNatClampNeg)]) rfl rfl rfl ?_
        refine w_mv (pc1 := 9) (st1 := [.int 57, .int (f24 (i1_2 + 1).toNatClampNeg)]) rfl rfl rfl ?_
        by_cases h53 : 57 < (f24 (i1_2 + 1).toNatClampNeg).toInt
        ·
          replace hh := hh.1 h53
          refine w_igt_T (pc1 := 16) rfl rfl (show 57 < (f24 (i1_2 + 1).toNatClampNeg).toInt from h53) ?_
          refine w_mv (pc1 := 17) (st1 := [.int 0]) rfl rfl rfl ?_
          refine w_iret (pc1 := 25) rfl rfl rfl rfl ?_
          refine w_mv (pc1 := 51) (st1 := []) rfl rfl rfl ?_
          obtain ⟨q54a, hh⟩ := hh
          refine cw_new (k := 5) (c1 := .inr (.inl (7, [.int 0, .int 0, .null, .int 0, .int 0]))) (pc1 := 54) rfl rfl rfl rfl ?_
          have g55 : (va_up (va_up G 6 (.inr (.inl (1, [.ref 7, .int i1_1, .int (i1_2 + 1)])))) N (.inr (.inl (7, [.int 0, .int 0, .null, .int 0, .int 0])))) 6 = .inr (.inl (1, [.ref 7, .int i1_1, .int (i1_2 + 1)])) := (va_ne (by omega)).trans g3
          have g56 : (va_up (va_up G 6 (.inr (.inl (1, [.ref 7, .int i1_1, .int (i1_2 + 1)])))) N (.inr (.inl (7, [.int 0, .int 0, .null, .int 0, .int 0])))) 7 = .inl (1, (48, .inl f24)) := (va_ne (by omega)).trans g24
          have g57 : (va_up (va_up G 6 (.inr (.inl (1, [.ref 7, .int i1_1, .int (i1_2 + 1)])))) N (.inr (.inl (7, [.int 0, .int 0, .null, .int 0, .int 0])))) N = .inr (.inl (7, [.int 0, .int 0, .null, .int 0, .int 0])) := up_eq
          refine w_mv (pc1 := 55) (st1 := [.ref N, .ref N]) rfl rfl rfl ?_
          refine w_mv (pc1 := 56) (st1 := [.int 1, .ref N, .ref N]) rfl rfl rfl ?_
          refine w_mv (pc1 := 57) (st1 := [.int (-48), .int 1, .ref N, .ref N]) rfl rfl rfl ?_
          refine w_call (M' := sM_29) (vals := [.ref N, .int 1, .int (-48)]) (rest := [.ref N]) (lv' := [(0, .ref N), (1, .int 1), (2, .int (-48))]) rfl rfl rfl rfl rfl rfl rfl rfl rfl rfl ?_
          refine w_mv (pc1 := 1) (st1 := [.ref N]) rfl rfl rfl ?_
          refine w_obj (pc1 := 4) (st1 := []) rfl rfl rfl ⟨by omega, Nat.le_of_ble_eq_true rfl⟩ rfl ?_
          refine w_mv (pc1 := 5) (st1 := [.ref N]) rfl rfl rfl ?_
          refine w_mv (pc1 := 6) (st1 := [.int 1, .ref N]) rfl rfl rfl ?_
          refine cw_pf (c1 := .inr (.inl (7, [.int 1, .int 0, .null, .int 0, .int 0]))) (pc1 := 9) rfl (by omega) (by omega) g57 rfl rfl rfl rfl ?_
          have g58 : (va_up (va_up (va_up G 6 (.inr (.inl (1, [.ref 7, .int i1_1, .int (i1_2 + 1)])))) N (.inr (.inl (7, [.int 0, .int 0, .null, .int 0, .int 0])))) N (.inr (.inl (7, [.int 1, .int 0, .null, .int 0, .int 0])))) 6 = .inr (.inl (1, [.ref 7, .int i1_1, .int (i1_2 + 1)])) := (va_ne (ne_ob g55 g57 (by decide))).trans g55
          have g59 : (va_up (va_up (va_up G 6 (.inr (.inl (1, [.ref 7, .int i1_1, .int (i1_2 + 1)])))) N (.inr (.inl (7, [.int 0, .int 0, .null, .int 0, .int 0])))) N (.inr (.inl (7, [.int 1, .int 0, .null, .int 0, .int 0])))) 7 = .inl (1, (48, .inl f24)) := (va_ne (ne_ao g56 g57)).trans g56
          have g60 : (va_up (va_up (va_up G 6 (.inr (.inl (1, [.ref 7, .int i1_1, .int (i1_2 + 1)])))) N (.inr (.inl (7, [.int 0, .int 0, .null, .int 0, .int 0])))) N (.inr (.inl (7, [.int 1, .int 0, .null, .int 0, .int 0])))) N = .inr (.inl (7, [.int 1, .int 0, .null, .int 0, .int 0])) := up_eq
          refine w_mv (pc1 := 10) (st1 := [.ref N]) rfl rfl rfl ?_
          refine w_mv (pc1 := 11) (st1 := [.int (-48), .ref N]) rfl rfl rfl ?_
          refine cw_pf (c1 := .inr (.inl (7, [.int 1, .int (-48), .null, .int 0, .int 0]))) (pc1 := 14) rfl (by omega) (by omega) g60 rfl rfl rfl rfl ?_
          rw [va_uu]
          have g61 : (va_up (va_up (va_up G 6 (.inr (.inl (1, [.ref 7, .int i1_1, .int (i1_2 + 1)])))) N (.inr (.inl (7, [.int 0, .int 0, .null, .int 0, .int 0])))) N (.inr (.inl (7, [.int 1, .int (-48), .null, .int 0, .int 0])))) 6 = .inr (.inl (1, [.ref 7, .int i1_1, .int (i1_2 + 1)])) := (va_ne (ne_ob g58 g60 (by decide))).trans ((va_ne (ne_ob g58 g60 (by decide))).symm.trans g58)
          have g62 : (va_up (va_up (va_up G 6 (.inr (.inl (1, [.ref 7, .int i1_1, .int (i1_2 + 1)])))) N (.inr (.inl (7, [.int 0, .int 0, .null, .int 0, .int 0])))) N (.inr (.inl (7, [.int 1, .int (-48), .null, .int 0, .int 0])))) 7 = .inl (1, (48, .inl f24)) := (va_ne (ne_ao g59 g60)).trans ((va_ne (ne_ao g59 g60)).symm.trans g59)
          have g63 : (va_up (va_up (va_up G 6 (.inr (.inl (1, [.ref 7, .int i1_1, .int (i1_2 + 1)])))) N (.inr (.inl (7, [.int 0, .int 0, .null, .int 0, .int 0])))) N (.inr (.inl (7, [.int 1, .int (-48), .null, .int 0, .int 0])))) N = .inr (.inl (7, [.int 1, .int (-48), .null, .int 0, .int 0])) := up_eq
          refine w_mv (pc1 := 15) (st1 := [.ref N]) rfl rfl rfl ?_
          refine w_mv (pc1 := 16) (st1 := [.int 1, .ref N]) rfl rfl rfl ?_
          refine w_mv (pc1 := 17) (st1 := [.int 2, .int 1, .ref N]) rfl rfl rfl ?_
          refine w_mv (pc1 := 24) (st1 := [.ref N]) rfl rfl rfl ?_
          refine w_mv (pc1 := 25) (st1 := [.int 0, .ref N]) rfl rfl rfl ?_
          refine cw_newq (n := 0) (pc1 := 28) rfl rfl (by decide) (by decide) (by decide) ?_
          have g64 : (va_up (va_up (va_up (va_up G 6 (.inr (.inl (1, [.ref 7, .int i1_1, .int (i1_2 + 1)])))) N (.inr (.inl (7, [.int 0, .int 0, .null, .int 0, .int 0])))) N (.inr (.inl (7, [.int 1, .int (-48), .null, .int 0, .int 0])))) (N + 1) (.inl (8, (0, .inr (.inr (.inr (.inr (fun _ => none)))))))) 6 = .inr (.inl (1, [.ref 7, .int i1_1, .int (i1_2 + 1)])) := (va_ne (by omega)).trans g61
          have g65 : (va_up (va_up (va_up (va_up G 6 (.inr (.inl (1, [.ref 7, .int i1_1, .int (i1_2 + 1)])))) N (.inr (.inl (7, [.int 0, .int 0, .null, .int 0, .int 0])))) N (.inr (.inl (7, [.int 1, .int (-48), .null, .int 0, .int 0])))) (N + 1) (.inl (8, (0, .inr (.inr (.inr (.inr (fun _ => none)))))))) 7 = .inl (1, (48, .inl f24)) := (va_ne (by omega)).trans g62
          have g66 : (va_up (va_up (va_up (va_up G 6 (.inr (.inl (1, [.ref 7, .int i1_1, .int (i1_2 + 1)])))) N (.inr (.inl (7, [.int 0, .int 0, .null, .int 0, .int 0])))) N (.inr (.inl (7, [.int 1, .int (-48), .null, .int 0, .int 0])))) (N + 1) (.inl (8, (0, .inr (.inr (.inr (.inr (fun _ => none)))))))) N = .inr (.inl (7, [.int 1, .int (-48), .null, .int 0, .int 0])) := (va_ne (by omega)).trans g63
          have g67 : (va_up (va_up (va_up (va_up G 6 (.inr (.inl (1, [.ref 7, .int i1_1, .int (i1_2 + 1)])))) N (.inr (.inl (7, [.int 0, .int 0, .null, .int 0, .int 0])))) N (.inr (.inl (7, [.int 1, .int (-48), .null, .int 0, .int 0])))) (N + 1) (.inl (8, (0, .inr (.inr (.inr (.inr (fun _ => none)))))))) (N + 1) = .inl (8, (0, .inr (.inr (.inr (.inr (fun _ => none)))))) := up_eq
          refine cw_pf (c1 := .inr (.inl (7, [.int 1, .int (-48), .ref (N + 1), .int 0, .int 0]))) (pc1 := 31) rfl (by omega) (by omega) g66 rfl rfl rfl rfl ?_
          have g68 : (va_up (va_up (va_up (va_up (va_up G 6 (.inr (.inl (1, [.ref 7, .int i1_1, .int (i1_2 + 1)])))) N (.inr (.inl (7, [.int 0, .int 0, .null, .int 0, .int 0])))) N (.inr (.inl (7, [.int 1, .int (-48), .null, .int 0, .int 0])))) (N + 1) (.inl (8, (0, .inr (.inr (.inr (.inr (fun _ => none)))))))) N (.inr (.inl (7, [.int 1, .int (-48), .ref (N + 1), .int 0, .int 0])))) 6 = .inr (.inl (1, [.ref 7, .int i1_1, .int (i1_2 + 1)])) := (va_ne (ne_ob g64 g66 (by decide))).trans g64
          have g69 : (va_up (va_up (va_up (va_up (va_up G 6 (.inr (.inl (1, [.ref 7, .int i1_1, .int (i1_2 + 1)])))) N (.inr (.inl (7, [.int 0, .int 0, .null, .int 0, .int 0])))) N (.inr (.inl (7, [.int 1, .int (-48), .null, .int 0, .int 0])))) (N + 1) (.inl (8, (0, .inr (.inr (.inr (.inr (fun _ => none)))))))) N (.inr (.inl (7, [.int 1, .int (-48), .ref (N + 1), .int 0, .int 0])))) 7 = .inl (1, (48, .inl f24)) := (va_ne (ne_ao g65 g66)).trans g65
          have g70 : (va_up (va_up (va_up (va_up (va_up G 6 (.inr (.inl (1, [.ref 7, .int i1_1, .int (i1_2 + 1)])))) N (.inr (.inl (7, [.int 0, .int 0, .null, .int 0, .int 0])))) N (.inr (.inl (7, [.int 1, .int (-48), .null, .int 0, .int 0])))) (N + 1) (.inl (8, (0, .inr (.inr (.inr (.inr (fun _ => none)))))))) N (.inr (.inl (7, [.int 1, .int (-48), .ref (N + 1), .int 0, .int 0])))) (N + 1) = .inl (8, (0, .inr (.inr (.inr (.inr (fun _ => none)))))) := (va_ne (ne_ao g67 g66)).trans g67
          have g71 : (va_up (va_up (va_up (va_up (va_up G 6 (.inr (.inl (1, [.ref 7, .int i1_1, .int (i1_2 + 1)])))) N (.inr (.inl (7, [.int 0, .int 0, .null, .int 0, .int 0])))) N (.inr (.inl (7, [.int 1, .int (-48), .null, .int 0, .int 0])))) (N + 1) (.inl (8, (0, .inr (.inr (.inr (.inr (fun _ => none)))))))) N (.inr (.inl (7, [.int 1, .int (-48), .ref (N + 1), .int 0, .int 0])))) N = .inr (.inl (7, [.int 1, .int (-48), .ref (N + 1), .int 0, .int 0])) := up_eq
          refine w_mv (pc1 := 32) (st1 := [.ref N]) rfl rfl rfl ?_
          refine w_mv (pc1 := 33) (st1 := [.int 0, .ref N]) rfl rfl rfl ?_
          refine cw_pf (c1 := .inr (.inl (7, [.int 1, .int (-48), .ref (N + 1), .int 0, .int 0]))) (pc1 := 36) rfl (by omega) (by omega) g71 rfl rfl rfl rfl ?_
          rw [va_uu]
          have g72 : (va_up (va_up (va_up (va_up (va_up G 6 (.inr (.inl (1, [.ref 7, .int i1_1, .int (i1_2 + 1)])))) N (.inr (.inl (7, [.int 0, .int 0, .null, .int 0, .int 0])))) N (.inr (.inl (7, [.int 1, .int (-48), .null, .int 0, .int 0])))) (N + 1) (.inl (8, (0, .inr (.inr (.inr (.inr (fun _ => none)))))))) N (.inr (.inl (7, [.int 1, .int (-48), .ref (N + 1), .int 0, .int 0])))) 6 = .inr (.inl (1, [.ref 7, .int i1_1, .int (i1_2 + 1)])) := (va_ne (ne_ob g68 g71 (by decide))).trans ((va_ne (ne_ob g68 g71 (by decide))).symm.trans g68)
          have g73 : (va_up (va_up (va_up (va_up (va_up G 6 (.inr (.inl (1, [.ref 7, .int i1_1, .int (i1_2 + 1)])))) N (.inr (.inl (7, [.int 0, .int 0, .null, .int 0, .int 0])))) N (.inr (.inl (7, [.int 1, .int (-48), .null, .int 0, .int 0])))) (N + 1) (.inl (8, (0, .inr (.inr (.inr (.inr (fun _ => none)))))))) N (.inr (.inl (7, [.int 1, .int (-48), .ref (N + 1), .int 0, .int 0])))) 7 = .inl (1, (48, .inl f24)) := (va_ne (ne_ao g69 g71)).trans ((va_ne (ne_ao g69 g71)).symm.trans g69)
          have g74 : (va_up (va_up (va_up (va_up (va_up G 6 (.inr (.inl (1, [.ref 7, .int i1_1, .int (i1_2 + 1)])))) N (.inr (.inl (7, [.int 0, .int 0, .null, .int 0, .int 0])))) N (.inr (.inl (7, [.int 1, .int (-48), .null, .int 0, .int 0])))) (N + 1) (.inl (8, (0, .inr (.inr (.inr (.inr (fun _ => none)))))))) N (.inr (.inl (7, [.int 1, .int (-48), .ref (N + 1), .int 0, .int 0])))) (N + 1) = .inl (8, (0, .inr (.inr (.inr (.inr (fun _ => none)))))) := (va_ne (ne_ao g70 g71)).trans ((va_ne (ne_ao g70 g71)).symm.trans g70)
          have g75 : (va_up (va_up (va_up (va_up (va_up G 6 (.inr (.inl (1, [.ref 7, .int i1_1, .int (i1_2 + 1)])))) N (.inr (.inl (7, [.int 0, .int 0, .null, .int 0, .int 0])))) N (.inr (.inl (7, [.int 1, .int (-48), .null, .int 0, .int 0])))) (N + 1) (.inl (8, (0, .inr (.inr (.inr (.inr (fun _ => none)))))))) N (.inr (.inl (7, [.int 1, .int (-48), .ref (N + 1), .int 0, .int 0])))) N = .inr (.inl (7, [.int 1, .int (-48), .ref (N + 1), .int 0, .int 0])) := up_eq
          refine w_mv (pc1 := 37) (st1 := [.ref N]) rfl rfl rfl ?_
          refine w_mv (pc1 := 38) (st1 := [.int 1, .ref N]) rfl rfl rfl ?_
          refine w_mv (pc1 := 47) (st1 := [.ref N]) rfl rfl rfl ?_
          refine w_mv (pc1 := 48) (st1 := [.int 0, .ref N]) rfl rfl rfl ?_
          refine cw_pf (c1 := .inr (.inl (7, [.int 1, .int (-48), .ref (N + 1), .int 0, .int 0]))) (pc1 := 51) rfl (by omega) (by omega) g75 rfl rfl rfl rfl ?_
          rw [va_uu]
          have g76 : (va_up (va_up (va_up (va_up (va_up G 6 (.inr (.inl (1, [.ref 7, .int i1_1, .int (i1_2 + 1)])))) N (.inr (.inl (7, [.int 0, .int 0, .null, .int 0, .int 0])))) N (.inr (.inl (7, [.int 1, .int (-48), .null, .int 0, .int 0])))) (N + 1) (.inl (8, (0, .inr (.inr (.inr (.inr (fun _ => none)))))))) N (.inr (.inl (7, [.int 1, .int (-48), .ref (N + 1), .int 0, .int 0])))) 6 = .inr (.inl (1, [.ref 7, .int i1_1, .int (i1_2 + 1)])) := (va_ne (ne_ob g72 g75 (by decide))).trans ((va_ne (ne_ob g72 g75 (by decide))).symm.trans g72)
          have g77 : (va_up (va_up (va_up (va_up (va_up G 6 (.inr (.inl (1, [.ref 7, .int i1_1, .int (i1_2 + 1)])))) N (.inr (.inl (7, [.int 0, .int 0, .null, .int 0, .int 0])))) N (.inr (.inl (7, [.int 1, .int (-48), .null, .int 0, .int 0])))) (N + 1) (.inl (8, (0, .inr (.inr (.inr (.inr (fun _ => none)))))))) N (.inr (.inl (7, [.int 1, .int (-48), .ref (N + 1), .int 0, .int 0])))) 7 = .inl (1, (48, .inl f24)) := (va_ne (ne_ao g73 g75)).trans ((va_ne (ne_ao g73 g75)).symm.trans g73)
          have g78 : (va_up (va_up (va_up (va_up (va_up G 6 (.inr (.inl (1, [.ref 7, .int i1_1, .int (i1_2 + 1)])))) N (.inr (.inl (7, [.int 0, .int 0, .null, .int 0, .int 0])))) N (.inr (.inl (7, [.int 1, .int (-48), .null, .int 0, .int 0])))) (N + 1) (.inl (8, (0, .inr (.inr (.inr (.inr (fun _ => none)))))))) N (.inr (.inl (7, [.int 1, .int (-48), .ref (N + 1), .int 0, .int 0])))) (N + 1) = .inl (8, (0, .inr (.inr (.inr (.inr (fun _ => none)))))) := (va_ne (ne_ao g74 g75)).trans ((va_ne (ne_ao g74 g75)).symm.trans g74)
          have g79 : (va_up (va_up (va_up (va_up (va_up G 6 (.inr (.inl (1, [.ref 7, .int i1_1, .int (i1_2 + 1)])))) N (.inr (.inl (7, [.int 0, .int 0, .null, .int 0, .int 0])))) N (.inr (.inl (7, [.int 1, .int (-48), .null, .int 0, .int 0])))) (N + 1) (.inl (8, (0, .inr (.inr (.inr (.inr (fun _ => none)))))))) N (.inr (.inl (7, [.int 1, .int (-48), .ref (N + 1), .int 0, .int 0])))) N = .inr (.inl (7, [.int 1, .int (-48), .ref (N + 1), .int 0, .int 0])) := up_eq
          refine w_vret (pc1 := 60) rfl rfl rfl ?_
          refine sx_wp.stop rfl rfl rfl ?_
          exact c_acc (hP _ _ _ _ _ hh) (by omega) (by omega)
        ·
          replace hh := hh.2 (Int.not_lt.mp h53)
          refine w_igt_F (pc1 := 12) rfl (by decide) rfl (show (f24 (i1_2 + 1).toNatClampNeg).toInt ≤ 57 from (Int.not_lt.mp h53)) ?_
          refine w_mv (pc1 := 13) (st1 := [.int 1]) rfl rfl rfl ?_
          refine w_mv (pc1 := 17) (st1 := [.int 1]) rfl rfl rfl ?_
          refine w_iret (pc1 := 25) rfl rfl rfl rfl ?_
          refine w_mv (pc1 := 28) (st1 := []) rfl rfl rfl ?_
          refine w_mv (pc1 := 29) (st1 := [.int (-48)]) rfl rfl rfl ?_
          refine w_mv (pc1 := 31) (st1 := [.int 10, .int (-48)]) rfl rfl rfl ?_
          refine w_mv (pc1 := 32) (st1 := [.int (-480)]) rfl rfl rfl ?_
          refine w_mv (pc1 := 33) (st1 := [.ref 6, .int (-480)]) rfl rfl rfl ?_
          refine w_call (M' := sM_26) (vals := [.ref 6]) (rest := [.int (-480)]) (lv' := [(0, .ref 6)]) rfl rfl rfl rfl rfl rfl (cH_rcv (by omega) (by omega) g3) rfl rfl rfl ?_
          refine w_mv (pc1 := 1) (st1 := [.ref 6]) rfl rfl rfl ?_
          refine cw_gf (v := .int (i1_2 + 1)) (pc1 := 4) rfl (by omega) (by omega) g3 rfl rfl ?_
          refine w_mv (pc1 := 5) (st1 := [.ref 6, .int (i1_2 + 1)]) rfl rfl rfl ?_
          refine cw_gf (v := .int i1_1) (pc1 := 8) rfl (by omega) (by omega) g3 rfl rfl ?_
          by_cases h80 : i1_1.toInt ≤ (i1_2 + 1).toInt
          ·
            replace hh := hh.1 h80
            refine w_ige_T (pc1 := 23) rfl rfl (show i1_1.toInt ≤ (i1_2 + 1).toInt from h80) ?_
            refine w_mv (pc1 := 24) (st1 := [.int 0]) rfl rfl rfl ?_
            refine w_iret (pc1 := 36) rfl rfl rfl rfl ?_
            refine w_mv (pc1 := 37) (st1 := [.int (-480)]) rfl rfl rfl ?_
            refine w_mv (pc1 := 39) (st1 := [.int 48, .int (-480)]) rfl rfl rfl ?_
            refine w_mv (pc1 := 40) (st1 := [.int (-528)]) rfl rfl rfl ?_
            refine w_mv (pc1 := 41) (lv1 := [(1, .int (-528)), (0, .ref 6)]) (st1 := []) rfl rfl rfl ?_
            refine w_mv (pc1 := 42) (st1 := [.ref 6]) rfl rfl rfl ?_
            refine w_mv (pc1 := 43) (st1 := [.ref 6, .ref 6]) rfl rfl rfl ?_
            refine cw_gf (v := .int (i1_2 + 1)) (pc1 := 46) rfl (by omega) (by omega) g3 rfl rfl ?_
            refine w_mv (pc1 := 47) (st1 := [.int 1, .int (i1_2 + 1), .ref 6]) rfl rfl rfl ?_
            refine w_mv (pc1 := 48) (st1 := [.int (i1_2 + 1 + 1), .ref 6]) rfl rfl rfl ?_
            refine cw_pf (c1 := .inr (.inl (1, [.ref 7, .int i1_1, .int (i1_2 + 1 + 1)]))) (pc1 := 51) rfl (by omega) (by omega) g3 rfl rfl rfl rfl ?_
            rw [va_uu]
            have g81 : (va_up G 6 (.inr (.inl (1, [.ref 7, .int i1_1, .int (i1_2 + 1 + 1)])))) 7 = .inl (1, (48, .inl f24)) := (va_ne (ne_ao g24 g3)).trans ((va_ne (ne_ao g24 g3)).symm.trans g24)
            have g82 : (va_up G 6 (.inr (.inl (1, [.ref 7, .int i1_1, .int (i1_2 + 1 + 1)])))) 6 = .inr (.inl (1, [.ref 7, .int i1_1, .int (i1_2 + 1 + 1)])) := up_eq
            obtain ⟨q83a, hh⟩ := hh
            refine cw_new (k := 5) (c1 := .inr (.inl (7, [.int 0, .int 0, .null, .int 0, .int 0]))) (pc1 := 54) rfl rfl rfl rfl ?_
            have g84 : (va_up (va_up G 6 (.inr (.inl (1, [.ref 7, .int i1_1, .int (i1_2 + 1 + 1)])))) N (.inr (.inl (7, [.int 0, .int 0, .null, .int 0, .int 0])))) 7 = .inl (1, (48, .inl f24)) := (va_ne (by omega)).trans g81
            have g85 : (va_up (va_up G 6 (.inr (.inl (1, [.ref 7, .int i1_1, .int (i1_2 + 1 + 1)])))) N (.inr (.inl (7, [.int 0, .int 0, .null, .int 0, .int 0])))) 6 = .inr (.inl (1, [.ref 7, .int i1_1, .int (i1_2 + 1 + 1)])) := (va_ne (by omega)).trans g82
            have g86 : (va_up (va_up G 6 (.inr (.inl (1, [.ref 7, .int i1_1, .int (i1_2 + 1 + 1)])))) N (.inr (.inl (7, [.int 0, .int 0, .null, .int 0, .int 0])))) N = .inr (.inl (7, [.int 0, .int 0, .null, .int 0, .int 0])) := up_eq
            refine w_mv (pc1 := 55) (st1 := [.ref N, .ref N]) rfl rfl rfl ?_
            refine w_mv (pc1 := 56) (st1 := [.int 1, .ref N, .ref N]) rfl rfl rfl ?_
            refine w_mv (pc1 := 57) (st1 := [.int (-528), .int 1, .ref N, .ref N]) rfl rfl rfl ?_
            refine w_call (M' := sM_29) (vals := [.ref N, .int 1, .int (-528)]) (rest := [.ref N]) (lv' := [(0, .ref N), (1, .int 1), (2, .int (-528))]) rfl rfl rfl rfl rfl rfl rfl rfl rfl rfl ?_
            refine w_mv (pc1 := 1) (st1 := [.ref N]) rfl rfl rfl ?_
            refine w_obj (pc1 := 4) (st1 := []) rfl rfl rfl ⟨by omega, Nat.le_of_ble_eq_true rfl⟩ rfl ?_
            refine w_mv (pc1 := 5) (st1 := [.ref N]) rfl rfl rfl ?_
            refine w_mv (pc1 := 6) (st1 := [.int 1, .ref N]) rfl rfl rfl ?_
            refine cw_pf (c1 := .inr (.inl (7, [.int 1, .int 0, .null, .int 0, .int 0]))) (pc1 := 9) rfl (by omega) (by omega) g86 rfl rfl rfl rfl ?_
            have g87 : (va_up (va_up (va_up G 6 (.inr (.inl (1, [.ref 7, .int i1_1, .int (i1_2 + 1 + 1)])))) N (.inr (.inl (7, [.int 0, .int 0, .null, .int 0, .int 0])))) N (.inr (.inl (7, [.int 1, .int 0, .null, .int 0, .int 0])))) 7 = .inl (1, (48, .inl f24)) := (va_ne (ne_ao g84 g86)).trans g84
            have g88 : (va_up (va_up (va_up G 6 (.inr (.inl (1, [.ref 7, .int i1_1, .int (i1_2 + 1 + 1)])))) N (.inr (.inl (7, [.int 0, .int 0, .null, .int 0, .int 0])))) N (.inr (.inl (7, [.int 1, .int 0, .null, .int 0, .int 0])))) 6 = .inr (.inl (1, [.ref 7, .int i1_1, .int (i1_2 + 1 + 1)])) := (va_ne (ne_ob g85 g86 (by decide))).trans g85
            have g89 : (va_up (va_up (va_up G 6 (.inr (.inl (1, [.ref 7, .int i1_1, .int (i1_2 + 1 + 1)])))) N (.inr (.inl (7, [.int 0, .int 0, .null, .int 0, .int 0])))) N (.inr (.inl (7, [.int 1, .int 0, .null, .int 0, .int 0])))) N = .inr (.inl (7, [.int 1, .int 0, .null, .int 0, .int 0])) := up_eq
            refine w_mv (pc1 := 10) (st1 := [.ref N]) rfl rfl rfl ?_
            refine w_mv (pc1 := 11) (st1 := [.int (-528), .ref N]) rfl rfl rfl ?_
            refine cw_pf (c1 := .inr (.inl (7, [.int 1, .int (-528), .null, .int 0, .int 0]))) (pc1 := 14) rfl (by omega) (by omega) g89 rfl rfl rfl rfl ?_
            rw [va_uu]
            have g90 : (va_up (va_up (va_up G 6 (.inr (.inl (1, [.ref 7, .int i1_1, .int (i1_2 + 1 + 1)])))) N (.inr (.inl (7, [.int 0, .int 0, .null, .int 0, .int 0])))) N (.inr (.inl (7, [.int 1, .int (-528), .null, .int 0, .int 0])))) 7 = .inl (1, (48, .inl f24)) := (va_ne (ne_ao g87 g89)).trans ((va_ne (ne_ao g87 g89)).symm.trans g87)
            have g91 : (va_up (va_up (va_up G 6 (.inr (.inl (1, [.ref 7, .int i1_1, .int (i1_2 + 1 + 1)])))) N (.inr (.inl (7, [.int 0, .int 0, .null, .int 0, .int 0])))) N (.inr (.inl (7, [.int 1, .int (-528), .null, .int 0, .int 0])))) 6 = .inr (.inl (1, [.ref 7, .int i1_1, .int (i1_2 + 1 + 1)])) := (va_ne (ne_ob g88 g89 (by decide))).trans ((va_ne (ne_ob g88 g89 (by decide))).symm.trans g88)
            have g92 : (va_up (va_up (va_up G 6 (.inr (.inl (1, [.ref 7, .int i1_1, .int (i1_2 + 1 + 1)])))) N (.inr (.inl (7, [.int 0, .int 0, .null, .int 0, .int 0])))) N (.inr (.inl (7, [.int 1, .int (-528), .null, .int 0, .int 0])))) N = .inr (.inl (7, [.int 1, .int (-528), .null, .int 0, .int 0])) := up_eq
            refine w_mv (pc1 := 15) (st1 := [.ref N]) rfl rfl rfl ?_
            refine w_mv (pc1 := 16) (st1 := [.int 1, .ref N]) rfl rfl rfl ?_
            refine w_mv (pc1 := 17) (st1 := [.int 2, .int 1, .ref N]) rfl rfl rfl ?_
            refine w_mv (pc1 := 24) (st1 := [.ref N]) rfl rfl rfl ?_
            refine w_mv (pc1 := 25) (st1 := [.int 0, .ref N]) rfl rfl rfl ?_
            refine cw_newq (n := 0) (pc1 := 28) rfl rfl (by decide) (by decide) (by decide) ?_
            have g93 : (va_up (va_up (va_up (va_up G 6 (.inr (.inl (1, [.ref 7, .int i1_1, .int (i1_2 + 1 + 1)])))) N (.inr (.inl (7, [.int 0, .int 0, .null, .int 0, .int 0])))) N (.inr (.inl (7, [.int 1, .int (-528), .null, .int 0, .int 0])))) (N + 1) (.inl (8, (0, .inr (.inr (.inr (.inr (fun _ => none)))))))) 7 = .inl (1, (48, .inl f24)) := (va_ne (by omega)).trans g90
            have g94 : (va_up (va_up (va_up (va_up G 6 (.inr (.inl (1, [.ref 7, .int i1_1, .int (i1_2 + 1 + 1)])))) N (.inr (.inl (7, [.int 0, .int 0, .null, .int 0, .int 0])))) N (.inr (.inl (7, [.int 1, .int (-528), .null, .int 0, .int 0])))) (N + 1) (.inl (8, (0, .inr (.inr (.inr (.inr (fun _ => none)))))))) 6 = .inr (.inl (1, [.ref 7, .int i1_1, .int (i1_2 + 1 + 1)])) := (va_ne (by omega)).trans g91
            have g95 : (va_up (va_up (va_up (va_up G 6 (.inr (.inl (1, [.ref 7, .int i1_1, .int (i1_2 + 1 + 1)])))) N (.inr (.inl (7, [.int 0, .int 0, .null, .int 0, .int 0])))) N (.inr (.inl (7, [.int 1, .int (-528), .null, .int 0, .int 0])))) (N + 1) (.inl (8, (0, .inr (.inr (.inr (.inr (fun _ => none)))))))) N = .inr (.inl (7, [.int 1, .int (-528), .null, .int 0, .int 0])) := (va_ne (by omega)).trans g92
            have g96 : (va_up (va_up (va_up (va_up G 6 (.inr (.inl (1, [.ref 7, .int i1_1, .int (i1_2 + 1 + 1)])))) N (.inr (.inl (7, [.int 0, .int 0, .null, .int 0, .int 0])))) N (.inr (.inl (7, [.int 1, .int (-528), .null, .int 0, .int 0])))) (N + 1) (.inl (8, (0, .inr (.inr (.inr (.inr (fun _ => none)))))))) (N + 1) = .inl (8, (0, .inr (.inr (.inr (.inr (fun _ => none)))))) := up_eq
            refine cw_pf (c1 := .inr (.inl (7, [.int 1, .int (-528), .ref (N + 1), .int 0, .int 0]))) (pc1 := 31) rfl (by omega) (by omega) g95 rfl rfl rfl rfl ?_
            have g97 : (va_up (va_up (va_up (va_up (va_up G 6 (.inr (.inl (1, [.ref 7, .int i1_1, .int (i1_2 + 1 + 1)])))) N (.inr (.inl (7, [.int 0, .int 0, .null, .int 0, .int 0])))) N (.inr (.inl (7, [.int 1, .int (-528), .null, .int 0, .int 0])))) (N + 1) (.inl (8, (0, .inr (.inr (.inr (.inr (fun _ => none)))))))) N (.inr (.inl (7, [.int 1, .int (-528), .ref (N + 1), .int 0, .int 0])))) 7 = .inl (1, (48, .inl f24)) := (va_ne (ne_ao g93 g95)).trans g93
            have g98 : (va_up (va_up (va_up (va_up (va_up G 6 (.inr (.inl (1, [.ref 7, .int i1_1, .int (i1_2 + 1 + 1)])))) N (.inr (.inl (7, [.int 0, .int 0, .null, .int 0, .int 0])))) N (.inr (.inl (7, [.int 1, .int (-528), .null, .int 0, .int 0])))) (N + 1) (.inl (8, (0, .inr (.inr (.inr (.inr (fun _ => none)))))))) N (.inr (.inl (7, [.int 1, .int (-528), .ref (N + 1), .int 0, .int 0])))) 6 = .inr (.inl (1, [.ref 7, .int i1_1, .int (i1_2 + 1 + 1)])) := (va_ne (ne_ob g94 g95 (by decide))).trans g94
            have g99 : (va_up (va_up (va_up (va_up (va_up G 6 (.inr (.inl (1, [.ref 7, .int i1_1, .int (i1_2 + 1 + 1)])))) N (.inr (.inl (7, [.int 0, .int 0, .null, .int 0, .int 0])))) N (.inr (.inl (7, [.int 1, .int (-528), .null, .int 0, .int 0])))) (N + 1) (.inl (8, (0, .inr (.inr (.inr (.inr (fun _ => none)))))))) N (.inr (.inl (7, [.int 1, .int (-528), .ref (N + 1), .int 0, .int 0])))) (N + 1) = .inl (8, (0, .inr (.inr (.inr (.inr (fun _ => none)))))) := (va_ne (ne_ao g96 g95)).trans g96
            have g100 : (va_up (va_up (va_up (va_up (va_up G 6 (.inr (.inl (1, [.ref 7, .int i1_1, .int (i1_2 + 1 + 1)])))) N (.inr (.inl (7, [.int 0, .int 0, .null, .int 0, .int 0])))) N (.inr (.inl (7, [.int 1, .int (-528), .null, .int 0, .int 0])))) (N + 1) (.inl (8, (0, .inr (.inr (.inr (.inr (fun _ => none)))))))) N (.inr (.inl (7, [.int 1, .int (-528), .ref (N + 1), .int 0, .int 0])))) N = .inr (.inl (7, [.int 1, .int (-528), .ref (N + 1), .int 0, .int 0])) := up_eq
            refine w_mv (pc1 := 32) (st1 := [.ref N]) rfl rfl rfl ?_
            refine w_mv (pc1 := 33) (st1 := [.int 0, .ref N]) rfl rfl rfl ?_
            refine cw_pf (c1 := .inr (.inl (7, [.int 1, .int (-528), .ref (N + 1), .int 0, .int 0]))) (pc1 := 36) rfl (by omega) (by omega) g100 rfl rfl rfl rfl ?_
            rw [va_uu]
            have g101 : (va_up (va_up (va_up (va_up (va_up G 6 (.inr (.inl (1, [.ref 7, .int i1_1, .int (i1_2 + 1 + 1)])))) N (.inr (.inl (7, [.int 0, .int 0, .null, .int 0, .int 0])))) N (.inr (.inl (7, [.int 1, .int (-528), .null, .int 0, .int 0])))) (N + 1) (.inl (8, (0, .inr (.inr (.inr (.inr (fun _ => none)))))))) N (.inr (.inl (7, [.int 1, .int (-528), .ref (N + 1), .int 0, .int 0])))) 7 = .inl (1, (48, .inl f24)) := (va_ne (ne_ao g97 g100)).trans ((va_ne (ne_ao g97 g100)).symm.trans g97)
            have g102 : (va_up (va_up (va_up (va_up (va_up G 6 (.inr (.inl (1, [.ref 7, .int i1_1, .int (i1_2 + 1 + 1)])))) N (.inr (.inl (7, [.int 0, .int 0, .null, .int 0, .int 0])))) N (.inr (.inl (7, [.int 1, .int (-528), .null, .int 0, .int 0])))) (N + 1) (.inl (8, (0, .inr (.inr (.inr (.inr (fun _ => none)))))))) N (.inr (.inl (7, [.int 1, .int (-528), .ref (N + 1), .int 0, .int 0])))) 6 = .inr (.inl (1, [.ref 7, .int i1_1, .int (i1_2 + 1 + 1)])) := (va_ne (ne_ob g98 g100 (by decide))).trans ((va_ne (ne_ob g98 g100 (by decide))).symm.trans g98)
            have g103 : (va_up (va_up (va_up (va_up (va_up G 6 (.inr (.inl (1, [.ref 7, .int i1_1, .int (i1_2 + 1 + 1)])))) N (.inr (.inl (7, [.int 0, .int 0, .null, .int 0, .int 0])))) N (.inr (.inl (7, [.int 1, .int (-528), .null, .int 0, .int 0])))) (N + 1) (.inl (8, (0, .inr (.inr (.inr (.inr (fun _ => none)))))))) N (.inr (.inl (7, [.int 1, .int (-528), .ref (N + 1), .int 0, .int 0])))) (N + 1) = .inl (8, (0, .inr (.inr (.inr (.inr (fun _ => none)))))) := (va_ne (ne_ao g99 g100)).trans ((va_ne (ne_ao g99 g100)).symm.trans g99)
            have g104 : (va_up (va_up (va_up (va_up (va_up G 6 (.inr (.inl (1, [.ref 7, .int i1_1, .int (i1_2 + 1 + 1)])))) N (.inr (.inl (7, [.int 0, .int 0, .null, .int 0, .int 0])))) N (.inr (.inl (7, [.int 1, .int (-528), .null, .int 0, .int 0])))) (N + 1) (.inl (8, (0, .inr (.inr (.inr (.inr (fun _ => none)))))))) N (.inr (.inl (7, [.int 1, .int (-528), .ref (N + 1), .int 0, .int 0])))) N = .inr (.inl (7, [.int 1, .int (-528), .ref (N + 1), .int 0, .int 0])) := up_eq
            refine w_mv (pc1 := 37) (st1 := [.ref N]) rfl rfl rfl ?_
            refine w_mv (pc1 := 38) (st1 := [.int 1, .ref N]) rfl rfl rfl ?_
            refine w_mv (pc1 := 47) (st1 := [.ref N]) rfl rfl rfl ?_
            refine w_mv (pc1 := 48) (st1 := [.int 0, .ref N]) rfl rfl rfl ?_
            refine cw_pf (c1 := .inr (.inl (7, [.int 1, .int (-528), .ref (N + 1), .int 0, .int 0]))) (pc1 := 51) rfl (by omega) (by omega) g104 rfl rfl rfl rfl ?_
            rw [va_uu]
            have g105 : (va_up (va_up (va_up (va_up (va_up G 6 (.inr (.inl (1, [.ref 7, .int i1_1, .int (i1_2 + 1 + 1)])))) N (.inr (.inl (7, [.int 0, .int 0, .null, .int 0, .int 0])))) N (.inr (.inl (7, [.int 1, .int (-528), .null, .int 0, .int 0])))) (N + 1) (.inl (8, (0, .inr (.inr (.inr (.inr (fun _ => none)))))))) N (.inr (.inl (7, [.int 1, .int (-528), .ref (N + 1), .int 0, .int 0])))) 7 = .inl (1, (48, .inl f24)) := (va_ne (ne_ao g101 g104)).trans ((va_ne (ne_ao g101 g104)).symm.trans g101)
            have g106 : (va_up (va_up (va_up (va_up (va_up G 6 (.inr (.inl (1, [.ref 7, .int i1_1, .int (i1_2 + 1 + 1)])))) N (.inr (.inl (7, [.int 0, .int 0, .null, .int 0, .int 0])))) N (.inr (.inl (7, [.int 1, .int (-528), .null, .int 0, .int 0])))) (N + 1) (.inl (8, (0, .inr (.inr (.inr (.inr (fun _ => none)))))))) N (.inr (.inl (7, [.int 1, .int (-528), .ref (N + 1), .int 0, .int 0])))) 6 = .inr (.inl (1, [.ref 7, .int i1_1, .int (i1_2 + 1 + 1)])) := (va_ne (ne_ob g102 g104 (by decide))).trans ((va_ne (ne_ob g102 g104 (by decide))).symm.trans g102)
            have g107 : (va_up (va_up (va_up (va_up (va_up G 6 (.inr (.inl (1, [.ref 7, .int i1_1, .int (i1_2 + 1 + 1)])))) N (.inr (.inl (7, [.int 0, .int 0, .null, .int 0, .int 0])))) N (.inr (.inl (7, [.int 1, .int (-528), .null, .int 0, .int 0])))) (N + 1) (.inl (8, (0, .inr (.inr (.inr (.inr (fun _ => none)))))))) N (.inr (.inl (7, [.int 1, .int (-528), .ref (N + 1), .int 0, .int 0])))) (N + 1) = .inl (8, (0, .inr (.inr (.inr (.inr (fun _ => none)))))) := (va_ne (ne_ao g103 g104)).trans ((va_ne (ne_ao g103 g104)).symm.trans g103)
            have g108 : (va_up (va_up (va_up (va_up (va_up G 6 (.inr (.inl (1, [.ref 7, .int i1_1, .int (i1_2 + 1 + 1)])))) N (.inr (.inl (7, [.int 0, .int 0, .null, .int 0, .int 0])))) N (.inr (.inl (7, [.int 1, .int (-528), .null, .int 0, .int 0])))) (N + 1) (.inl (8, (0, .inr (.inr (.inr (.inr (fun _ => none)))))))) N (.inr (.inl (7, [.int 1, .int (-528), .ref (N + 1), .int 0, .int 0])))) N = .inr (.inl (7, [.int 1, .int (-528), .ref (N + 1), .int 0, .int 0])) := up_eq
            refine w_vret (pc1 := 60) rfl rfl rfl ?_
            refine sx_wp.stop rfl rfl rfl ?_
            exact c_acc (hP _ _ _ _ _ hh) (by omega) (by omega)
          ·
            replace hh := hh.2 (Int.not_le.mp h80)
            refine w_ige_F (pc1 := 11) rfl (by decide) rfl (show (i1_2 + 1).toInt < i1_1.toInt from (Int.not_le.mp h80)) ?_
            refine w_mv (pc1 := 12) (st1 := [.ref 6]) rfl rfl rfl ?_
            refine cw_gf (v := .ref 7) (pc1 := 15) rfl (by omega) (by omega) g3 rfl rfl ?_
            refine w_mv (pc1 := 16) (st1 := [.ref 6, .ref 7]) rfl rfl rfl ?_
            refine cw_gf (v := .int (i1_2 + 1)) (pc1 := 19) rfl (by omega) (by omega) g3 rfl rfl ?_
            obtain ⟨q109a, q109b, hh⟩ := hh
            refine cw_bld (pc1 := 20) rfl (by omega) g24 q109a q109b rfl ?_
            refine w_mv (pc1 := 24) (st1 := [.int (f24 (i1_2 + 1).toNatClampNeg)]) rfl rfl rfl ?_
            refine w_iret (pc1 := 36) rfl rfl rfl rfl ?_
            refine w_mv (pc1 := 37) (st1 := [.int ((-480) + (f24 (i1_2 + 1).toNatClampNeg))]) rfl rfl rfl ?_
            refine w_mv (pc1 := 39) (st1 := [.int 48, .int ((-480) + (f24 (i1_2 + 1).toNatClampNeg))]) rfl rfl rfl ?_
            refine w_mv (pc1 := 40) (st1 := [.int (((-480) + (f24 (i1_2 + 1).toNatClampNeg)) - 48)]) rfl rfl rfl ?_
            refine w_mv (pc1 := 41) (lv1 := [(1, .int (((-480) + (f24 (i1_2 + 1).toNatClampNeg)) - 48)), (0, .ref 6)]) (st1 := []) rfl rfl rfl ?_
            refine w_mv (pc1 := 42) (st1 := [.ref 6]) rfl rfl rfl ?_
            refine w_mv (pc1 := 43) (st1 := [.ref 6, .ref 6]) rfl rfl rfl ?_
            refine cw_gf (v := .int (i1_2 + 1)) (pc1 := 46) rfl (by omega) (by omega) g3 rfl rfl ?_
            refine w_mv (pc1 := 47) (st1 := [.int 1, .int (i1_2 + 1), .ref 6]) rfl rfl rfl ?_
            refine w_mv (pc1 := 48) (st1 := [.int (i1_2 + 1 + 1), .ref 6]) rfl rfl rfl ?_
            refine cw_pf (c1 := .inr (.inl (1, [.ref 7, .int i1_1, .int (i1_2 + 1 + 1)]))) (pc1 := 51) rfl (by omega) (by omega) g3 rfl rfl rfl rfl ?_
            rw [va_uu]
            have g110 : (va_up G 6 (.inr (.inl (1, [.ref 7, .int i1_1, .int (i1_2 + 1 + 1)])))) 7 = .inl (1, (48, .inl f24)) := (va_ne (ne_ao g24 g3)).trans ((va_ne (ne_ao g24 g3)).symm.trans g24)
            have g111 : (va_up G 6 (.inr (.inl (1, [.ref 7, .int i1_1, .int (i1_2 + 1 + 1)])))) 6 = .inr (.inl (1, [.ref 7, .int i1_1, .int (i1_2 + 1 + 1)])) := up_eq
            obtain ⟨q112a, hh⟩ := hh
            refine cw_new (k := 5) (c1 := .inr (.inl (7, [.int 0, .int 0, .null, .int 0, .int 0]))) (pc1 := 54) rfl rfl rfl rfl ?_
            have g113 : (va_up (va_up G 6 (.inr (.inl (1, [.ref 7, .int i1_1, .int (i1_2 + 1 + 1)])))) N (.inr (.inl (7, [.int 0, .int 0, .null, .int 0, .int 0])))) 7 = .inl (1, (48, .inl f24)) := (va_ne (by omega)).trans g110
            have g114 : (va_up (va_up G 6 (.inr (.inl (1, [.ref 7, .int i1_1, .int (i1_2 + 1 + 1)])))) N (.inr (.inl (7, [.int 0, .int 0, .null, .int 0, .int 0])))) 6 = .inr (.inl (1, [.ref 7, .int i1_1, .int (i1_2 + 1 + 1)])) := (va_ne (by omega)).trans g111
            have g115 : (va_up (va_up G 6 (.inr (.inl (1, [.ref 7, .int i1_1, .int (i1_2 + 1 + 1)])))) N (.inr (.inl (7, [.int 0, .int 0, .null, .int 0, .int 0])))) N = .inr (.inl (7, [.int 0, .int 0, .null, .int 0, .int 0])) := up_eq
            refine w_mv (pc1 := 55) (st1 := [.ref N, .ref N]) rfl rfl rfl ?_
            refine w_mv (pc1 := 56) (st1 := [.int 1, .ref N, .ref N]) rfl rfl rfl ?_
            refine w_mv (pc1 := 57) (st1 := [.int (((-480) + (f24 (i1_2 + 1).toNatClampNeg)) - 48), .int 1, .ref N, .ref N]) rfl rfl rfl ?_
            refine w_call (M' := sM_29) (vals := [.ref N, .int 1, .int (((-480) + (f24 (i1_2 + 1).toNatClampNeg)) - 48)]) (rest := [.ref N]) (lv' := [(0, .ref N), (1, .int 1), (2, .int (((-480) + (f24 (i1_2 + 1).toNatClampNeg)) - 48))]) rfl rfl rfl rfl rfl rfl rfl rfl rfl rfl ?_
            refine w_mv (pc1 := 1) (st1 := [.ref N]) rfl rfl rfl ?_
            refine w_obj (pc1 := 4) (st1 := []) rfl rfl rfl ⟨by omega, Nat.le_of_ble_eq_true rfl⟩ rfl ?_
            refine w_mv (pc1 := 5) (st1 := [.ref N]) rfl rfl rfl ?_
            refine w_mv (pc1 := 6) (st1 := [.int 1, .ref N]) rfl rfl rfl ?_
            refine cw_pf (c1 := .inr (.inl (7, [.int 1, .int 0, .null, .int 0, .int 0]))) (pc1 := 9) rfl (by omega) (by omega) g115 rfl rfl rfl rfl ?_
            have g116 : (va_up (va_up (va_up G 6 (.inr (.inl (1, [.ref 7, .int i1_1, .int (i1_2 + 1 + 1)])))) N (.inr (.inl (7, [.int 0, .int 0, .null, .int 0, .int 0])))) N (.inr (.inl (7, [.int 1, .int 0, .null, .int 0, .int 0])))) 7 = .inl (1, (48, .inl f24)) := (va_ne (ne_ao g113 g115)).trans g113
            have g117 : (va_up (va_up (va_up G 6 (.inr (.inl (1, [.ref 7, .int i1_1, .int (i1_2 + 1 + 1)])))) N (.inr (.inl (7, [.int 0, .int 0, .null, .int 0, .int 0])))) N (.inr (.inl (7, [.int 1, .int 0, .null, .int 0, .int 0])))) 6 = .inr (.inl (1, [.ref 7, .int i1_1, .int (i1_2 + 1 + 1)])) := (va_ne (ne_ob g114 g115 (by decide))).trans g114
            have g118 : (va_up (va_up (va_up G 6 (.inr (.inl (1, [.ref 7, .int i1_1, .int (i1_2 + 1 + 1)])))) N (.inr (.inl (7, [.int 0, .int 0, .null, .int 0, .int 0])))) N (.inr (.inl (7, [.int 1, .int 0, .null, .int 0, .int 0])))) N = .inr (.inl (7, [.int 1, .int 0, .null, .int 0, .int 0])) := up_eq
            refine w_mv (pc1 := 10) (st1 := [.ref N]) rfl rfl rfl ?_
            refine w_mv (pc1 := 11) (st1 := [.int (((-480) + (f24 (i1_2 + 1).toNatClampNeg)) - 48), .ref N]) rfl rfl rfl ?_
            refine cw_pf (c1 := .inr (.inl (7, [.int 1, .int (((-480) + (f24 (i1_2 + 1).toNatClampNeg)) - 48), .null, .int 0, .int 0]))) (pc1 := 14) rfl (by omega) (by omega) g118 rfl rfl rfl rfl ?_
            rw [va_uu]
            have g119 : (va_up (va_up (va_up G 6 (.inr (.inl (1, [.ref 7, .int i1_1, .int (i1_2 + 1 + 1)])))) N (.inr (.inl (7, [.int 0, .int 0, .null, .int 0, .int 0])))) N (.inr (.inl (7, [.int 1, .int (((-480) + (f24 (i1_2 + 1).toNatClampNeg)) - 48), .null, .int 0, .int 0])))) 7 = .inl (1, (48, .inl f24)) := (va_ne (ne_ao g116 g118)).trans ((va_ne (ne_ao g116 g118)).symm.trans g116)
            have g120 : (va_up (va_up (va_up G 6 (.inr (.inl (1, [.ref 7, .int i1_1, .int (i1_2 + 1 + 1)])))) N (.inr (.inl (7, [.int 0, .int 0, .null, .int 0, .int 0])))) N (.inr (.inl (7, [.int 1, .int (((-480) + (f24 (i1_2 + 1).toNatClampNeg)) - 48), .null, .int 0, .int 0])))) 6 = .inr (.inl (1, [.ref 7, .int i1_1, .int (i1_2 + 1 + 1)])) := (va_ne (ne_ob g117 g118 (by decide))).trans ((va_ne (ne_ob g117 g118 (by decide))).symm.trans g117)
            have g121 : (va_up (va_up (va_up G 6 (.inr (.inl (1, [.ref 7, .int i1_1, .int (i1_2 + 1 + 1)])))) N (.inr (.inl (7, [.int 0, .int 0, .null, .int 0, .int 0])))) N (.inr (.inl (7, [.int 1, .int (((-480) + (f24 (i1_2 + 1).toNatClampNeg)) - 48), .null, .int 0, .int 0])))) N = .inr (.inl (7, [.int 1, .int (((-480) + (f24 (i1_2 + 1).toNatClampNeg)) - 48), .null, .int 0, .int 0])) := up_eq
            refine w_mv (pc1 := 15) (st1 := [.ref N]) rfl rfl rfl ?_
            refine w_mv (pc1 := 16) (st1 := [.int 1, .ref N]) rfl rfl rfl ?_
            refine w_mv (pc1 := 17) (st1 := [.int 2, .int 1, .ref N]) rfl rfl rfl ?_
            refine w_mv (pc1 := 24) (st1 := [.ref N]) rfl rfl rfl ?_
            refine w_mv (pc1 := 25) (st1 := [.int 0, .ref N]) rfl rfl rfl ?_
            refine cw_newq (n := 0) (pc1 := 28) rfl rfl (by decide) (by decide) (by decide) ?_
            have g122 : (va_up (va_up (va_up (va_up G 6 (.inr (.inl (1, [.ref 7, .int i1_1, .int (i1_2 + 1 + 1)])))) N (.inr (.inl (7, [.int 0, .int 0, .null, .int 0, .int 0])))) N (.inr (.inl (7, [.int 1, .int (((-480) + (f24 (i1_2 + 1).toNatClampNeg)) - 48), .null, .int 0, .int 0])))) (N + 1) (.inl (8, (0, .inr (.inr (.inr (.inr (fun _ => none)))))))) 7 = .inl (1, (48, .inl f24)) := (va_ne (by omega)).trans g119
            have g123 : (va_up (va_up (va_up (va_up G 6 (.inr (.inl (1, [.ref 7, .int i1_1, .int (i1_2 + 1 + 1)])))) N (.inr (.inl (7, [.int 0, .int 0, .null, .int 0, .int 0])))) N (.inr (.inl (7, [.int 1, .int (((-480) + (f24 (i1_2 + 1).toNatClampNeg)) - 48), .null, .int 0, .int 0])))) (N + 1) (.inl (8, (0, .inr (.inr (.inr (.inr (fun _ => none)))))))) 6 = .inr (.inl (1, [.ref 7, .int i1_1, .int (i1_2 + 1 + 1)])) := (va_ne (by omega)).trans g120
            have g124 : (va_up (va_up (va_up (va_up G 6 (.inr (.inl (1, [.ref 7, .int i1_1, .int (i1_2 + 1 + 1)])))) N (.inr (.inl (7, [.int 0, .int 0, .null, .int 0, .int 0])))) N (.inr (.inl (7, [.int 1, .int (((-480) + (f24 (i1_2 + 1).toNatClampNeg)) - 48), .null, .int 0, .int 0])))) (N + 1) (.inl (8, (0, .inr (.inr (.inr (.inr (fun _ => none)))))))) N = .inr (.inl (7, [.int 1, .int (((-480) + (f24 (i1_2 + 1).toNatClampNeg)) - 48), .null, .int 0, .int 0])) := (va_ne (by omega)).trans g121
            have g125 : (va_up (va_up (va_up (va_up G 6 (.inr (.inl (1, [.ref 7, .int i1_1, .int (i1_2 + 1 + 1)])))) N (.inr (.inl (7, [.int 0, .int 0, .null, .int 0, .int 0])))) N (.inr (.inl (7, [.int 1, .int (((-480) + (f24 (i1_2 + 1).toNatClampNeg)) - 48), .null, .int 0, .int 0])))) (N + 1) (.inl (8, (0, .inr (.inr (.inr (.inr (fun _ => none)))))))) (N + 1) = .inl (8, (0, .inr (.inr (.inr (.inr (fun _ => none)))))) := up_eq
            refine cw_pf (c1 := .inr (.inl (7, [.int 1, .int (((-480) + (f24 (i1_2 + 1).toNatClampNeg)) - 48), .ref (N + 1), .int 0, .int 0]))) (pc1 := 31) rfl (by omega) (by omega) g124 rfl rfl rfl rfl ?_
            have g126 : (va_up (va_up (va_up (va_up (va_up G 6 (.inr (.inl (1, [.ref 7, .int i1_1, .int (i1_2 + 1 + 1)])))) N (.inr (.inl (7, [.int 0, .int 0, .null, .int 0, .int 0])))) N (.inr (.inl (7, [.int 1, .int (((-480) + (f24 (i1_2 + 1).toNatClampNeg)) - 48), .null, .int 0, .int 0])))) (N + 1) (.inl (8, (0, .inr (.inr (.inr (.inr (fun _ => none)))))))) N (.inr (.inl (7, [.int 1, .int (((-480) + (f24 (i1_2 + 1).toNatClampNeg)) - 48), .ref (N + 1), .int 0, .int 0])))) 7 = .inl (1, (48, .inl f24)) := (va_ne (ne_ao g122 g124)).trans g122
            have g127 : (va_up (va_up (va_up (va_up (va_up G 6 (.inr (.inl (1, [.ref 7, .int i1_1, .int (i1_2 + 1 + 1)])))) N (.inr (.inl (7, [.int 0, .int 0, .null, .int 0, .int 0])))) N (.inr (.inl (7, [.int 1, .int (((-480) + (f24 (i1_2 + 1).toNatClampNeg)) - 48), .null, .int 0, .int 0])))) (N + 1) (.inl (8, (0, .inr (.inr (.inr (.inr (fun _ => none)))))))) N (.inr (.inl (7, [.int 1, .int (((-480) + (f24 (i1_2 + 1).toNatClampNeg)) - 48), .ref (N + 1), .int 0, .int 0])))) 6 = .inr (.inl (1, [.ref 7, .int i1_1, .int (i1_2 + 1 + 1)])) := (va_ne (ne_ob g123 g124 (by decide))).trans g123
            have g128 : (va_up (va_up (va_up (va_up (va_up G 6 (.inr (.inl (1, [.ref 7, .int i1_1, .int (i1_2 + 1 + 1)])))) N (.inr (.inl (7, [.int 0, .int 0, .null, .int 0, .int 0])))) N (.inr (.inl (7, [.int 1, .int (((-480) + (f24 (i1_2 + 1).toNatClampNeg)) - 48), .null, .int 0, .int 0])))) (N + 1) (.inl (8, (0, .inr (.inr (.inr (.inr (fun _ => none)))))))) N (.inr (.inl (7, [.int 1, .int (((-480) + (f24 (i1_2 + 1).toNatClampNeg)) - 48), .ref (N + 1), .int 0, .int 0])))) (N + 1) = .inl (8, (0, .inr (.inr (.inr (.inr (fun _ => none)))))) := (va_ne (ne_ao g125 g124)).trans g125
            have g129 : (va_up (va_up (va_up (va_up (va_up G 6 (.inr (.inl (1, [.ref 7, .int i1_1, .int (i1_2 + 1 + 1)])))) N (.inr (.inl (7, [.int 0, .int 0, .null, .int 0, .int 0])))) N (.inr (.inl (7, [.int 1, .int (((-480) + (f24 (i1_2 + 1).toNatClampNeg)) - 48), .null, .int 0, .int 0])))) (N + 1) (.inl (8, (0, .inr (.inr (.inr (.inr (fun _ => none)))))))) N (.inr (.inl (7, [.int 1, .int (((-480) + (f24 (i1_2 + 1).toNatClampNeg)) - 48), .ref (N + 1), .int 0, .int 0])))) N = .inr (.inl (7, [.int 1, .int (((-480) + (f24 (i1_2 + 1).toNatClampNeg)) - 48), .ref (N + 1), .int 0, .int 0])) := up_eq
            refine w_mv (pc1 := 32) (st1 := [.ref N]) rfl rfl rfl ?_
            refine w_mv (pc1 := 33) (st1 := [.int 0, .ref N]) rfl rfl rfl ?_
            refine cw_pf (c1 := .inr (.inl (7, [.int 1, .int (((-480) + (f24 (i1_2 + 1).toNatClampNeg)) - 48), .ref (N + 1), .int 0, .int 0]))) (pc1 := 36) rfl (by omega) (by omega) g129 rfl rfl rfl rfl ?_
            rw [va_uu]
            have g130 : (va_up (va_up (va_up (va_up (va_up G 6 (.inr (.inl (1, [.ref 7, .int i1_1, .int (i1_2 + 1 + 1)])))) N (.inr (.inl (7, [.int 0, .int 0, .null, .int 0, .int 0])))) N (.inr (.inl (7, [.int 1, .int (((-480) + (f24 (i1_2 + 1).toNatClampNeg)) - 48), .null, .int 0, .int 0])))) (N + 1) (.inl (8, (0, .inr (.inr (.inr (.inr (fun _ => none)))))))) N (.inr (.inl (7, [.int 1, .int (((-480) + (f24 (i1_2 + 1).toNatClampNeg)) - 48), .ref (N + 1), .int 0, .int 0])))) 7 = .inl (1, (48, .inl f24)) := (va_ne (ne_ao g126 g129)).trans ((va_ne (ne_ao g126 g129)).symm.trans g126)
            have g131 : (va_up (va_up (va_up (va_up (va_up G 6 (.inr (.inl (1, [.ref 7, .int i1_1, .int (i1_2 + 1 + 1)])))) N (.inr (.inl (7, [.int 0, .int 0, .null, .int 0, .int 0])))) N (.inr (.inl (7, [.int 1, .int (((-480) + (f24 (i1_2 + 1).toNatClampNeg)) - 48), .null, .int 0, .int 0])))) (N + 1) (.inl (8, (0, .inr (.inr (.inr (.inr (fun _ => none)))))))) N (.inr (.inl (7, [.int 1, .int (((-480) + (f24 (i1_2 + 1).toNatClampNeg)) - 48), .ref (N + 1), .int 0, .int 0])))) 6 = .inr (.inl (1, [.ref 7, .int i1_1, .int (i1_2 + 1 + 1)])) := (va_ne (ne_ob g127 g129 (by decide))).trans ((va_ne (ne_ob g127 g129 (by decide))).symm.trans g127)
            have g132 : (va_up (va_up (va_up (va_up (va_up G 6 (.inr (.inl (1, [.ref 7, .int i1_1, .int (i1_2 + 1 + 1)])))) N (.inr (.inl (7, [.int 0, .int 0, .null, .int 0, .int 0])))) N (.inr (.inl (7, [.int 1, .int (((-480) + (f24 (i1_2 + 1).toNatClampNeg)) - 48), .null, .int 0, .int 0])))) (N + 1) (.inl (8, (0, .inr (.inr (.inr (.inr (fun _ => none)))))))) N (.inr (.inl (7, [.int 1, .int (((-480) + (f24 (i1_2 + 1).toNatClampNeg)) - 48), .ref (N + 1), .int 0, .int 0])))) (N + 1) = .inl (8, (0, .inr (.inr (.inr (.inr (fun _ => none)))))) := (va_ne (ne_ao g128 g129)).trans ((va_ne (ne_ao g128 g129)).symm.trans g128)
            have g133 : (va_up (va_up (va_up (va_up (va_up G 6 (.inr (.inl (1, [.ref 7, .int i1_1, .int (i1_2 + 1 + 1)])))) N (.inr (.inl (7, [.int 0, .int 0, .null, .int 0, .int 0])))) N (.inr (.inl (7, [.int 1, .int (((-480) + (f24 (i1_2 + 1).toNatClampNeg)) - 48), .null, .int 0, .int 0])))) (N + 1) (.inl (8, (0, .inr (.inr (.inr (.inr (fun _ => none)))))))) N (.inr (.inl (7, [.int 1, .int (((-480) + (f24 (i1_2 + 1).toNatClampNeg)) - 48), .ref (N + 1), .int 0, .int 0])))) N = .inr (.inl (7, [.int 1, .int (((-480) + (f24 (i1_2 + 1).toNatClampNeg)) - 48), .ref (N + 1), .int 0, .int 0])) := up_eq
            refine w_mv (pc1 := 37) (st1 := [.ref N]) rfl rfl rfl ?_
            refine w_mv (pc1 := 38) (st1 := [.int 1, .ref N]) rfl rfl rfl ?_
            refine w_mv (pc1 := 47) (st1 := [.ref N]) rfl rfl rfl ?_
            refine w_mv (pc1 := 48) (st1 := [.int 0, .ref N]) rfl rfl rfl ?_
            refine cw_pf (c1 := .inr (.inl (7, [.int 1, .int (((-480) + (f24 (i1_2 + 1).toNatClampNeg)) - 48), .ref (N + 1), .int 0, .int 0]))) (pc1 := 51) rfl (by omega) (by omega) g133 rfl rfl rfl rfl ?_
            rw [va_uu]
            have g134 : (va_up (va_up (va_up (va_up (va_up G 6 (.inr (.inl (1, [.ref 7, .int i1_1, .int (i1_2 + 1 + 1)])))) N (.inr (.inl (7, [.int 0, .int 0, .null, .int 0, .int 0])))) N (.inr (.inl (7, [.int 1, .int (((-480) + (f24 (i1_2 + 1).toNatClampNeg)) - 48), .null, .int 0, .int 0])))) (N + 1) (.inl (8, (0, .inr (.inr (.inr (.inr (fun _ => none)))))))) N (.inr (.inl (7, [.int 1, .int (((-480) + (f24 (i1_2 + 1).toNatClampNeg)) - 48), .ref (N + 1), .int 0, .int 0])))) 7 = .inl (1, (48, .inl f24)) := (va_ne (ne_ao g130 g133)).trans ((va_ne (ne_ao g130 g133)).symm.trans g130)
            have g135 : (va_up (va_up (va_up (va_up (va_up G 6 (.inr (.inl (1, [.ref 7, .int i1_1, .int (i1_2 + 1 + 1)])))) N (.inr (.inl (7, [.int 0, .int 0, .null, .int 0, .int 0])))) N (.inr (.inl (7, [.int 1, .int (((-480) + (f24 (i1_2 + 1).toNatClampNeg)) - 48), .null, .int 0, .int 0])))) (N + 1) (.inl (8, (0, .inr (.inr (.inr (.inr (fun _ => none)))))))) N (.inr (.inl (7, [.int 1, .int (((-480) + (f24 (i1_2 + 1).toNatClampNeg)) - 48), .ref (N + 1), .int 0, .int 0])))) 6 = .inr (.inl (1, [.ref 7, .int i1_1, .int (i1_2 + 1 + 1)])) := (va_ne (ne_ob g131 g133 (by decide))).trans ((va_ne (ne_ob g131 g133 (by decide))).symm.trans g131)
            have g136 : (va_up (va_up (va_up (va_up (va_up G 6 (.inr (.inl (1, [.ref 7, .int i1_1, .int (i1_2 + 1 + 1)])))) N (.inr (.inl (7, [.int 0, .int 0, .null, .int 0, .int 0])))) N (.inr (.inl (7, [.int 1, .int (((-480) + (f24 (i1_2 + 1).toNatClampNeg)) - 48), .null, .int 0, .int 0])))) (N + 1) (.inl (8, (0, .inr (.inr (.inr (.inr (fun _ => none)))))))) N (.inr (.inl (7, [.int 1, .int (((-480) + (f24 (i1_2 + 1).toNatClampNeg)) - 48), .ref (N + 1), .int 0, .int 0])))) (N + 1) = .inl (8, (0, .inr (.inr (.inr (.inr (fun _ => none)))))) := (va_ne (ne_ao g132 g133)).trans ((va_ne (ne_ao g132 g133)).symm.trans g132)
            have g137 : (va_up (va_up (va_up (va_up (va_up G 6 (.inr (.inl (1, [.ref 7, .int i1_1, .int (i1_2 + 1 + 1)])))) N (.inr (.inl (7, [.int 0, .int 0, .null, .int 0, .int 0])))) N (.inr (.inl (7, [.int 1, .int (((-480) + (f24 (i1_2 + 1).toNatClampNeg)) - 48), .null, .int 0, .int 0])))) (N + 1) (.inl (8, (0, .inr (.inr (.inr (.inr (fun _ => none)))))))) N (.inr (.inl (7, [.int 1, .int (((-480) + (f24 (i1_2 + 1).toNatClampNeg)) - 48), .ref (N + 1), .int 0, .int 0])))) N = .inr (.inl (7, [.int 1, .int (((-480) + (f24 (i1_2 + 1).toNatClampNeg)) - 48), .ref (N + 1), .int 0, .int 0])) := up_eq
            refine w_vret (pc1 := 60) rfl rfl rfl ?_
            refine sx_wp.stop rfl rfl rfl ?_
            exact c_acc (hP _ _ _ _ _ hh) (by omega) (by omega)
  ·
    replace hh := hh.2 (Int.not_le.mp h2)
    refine w_ige_F (pc1 := 11) rfl (by decide) rfl (show i1_2.toInt < i1_1.toInt from (Int.not_le.mp h2)) ?_
    refine w_mv (pc1 := 12) (st1 := [.ref 6]) rfl rfl rfl ?_
    refine cw_gf (v := .ref 7) (pc1 := 15) rfl (by omega) (by omega) g1 rfl rfl ?_
    refine w_mv (pc1 := 16) (st1 := [.ref 6, .ref 7]) rfl rfl rfl ?_
    refine cw_gf (v := .int i1_2) (pc1 := 19) rfl (by omega) (by omega) g1 rfl rfl ?_
    obtain ⟨b138b, f138, g138, hh⟩ := hh
    obtain ⟨q139a, q139b, hh⟩ := hh
    refine cw_bld (pc1 := 20) rfl (by omega) g138 q139a q139b rfl ?_
    refine w_mv (pc1 := 24) (st1 := [.int (f138 i1_2.toNatClampNeg)]) rfl rfl rfl ?_
    refine w_iret (pc1 := 4) rfl rfl rfl rfl ?_
    refine w_mv (pc1 := 6) (st1 := [.int 48, .int (f138 i1_2.toNatClampNeg)]) rfl rfl rfl ?_
    refine w_mv (pc1 := 7) (st1 := [.int (f138 i1_2.toNatClampNeg - 48)]) rfl rfl rfl ?_
    refine w_mv (pc1 := 8) (lv1 := [(1, .int (f138 i1_2.toNatClampNeg - 48)), (0, .ref 6)]) (st1 := []) rfl rfl rfl ?_
    refine w_mv (pc1 := 9) (st1 := [.ref 6]) rfl rfl rfl ?_
    refine w_mv (pc1 := 10) (st1 := [.ref 6, .ref 6]) rfl rfl rfl ?_
    refine cw_gf (v := .int i1_2) (pc1 := 13) rfl (by omega) (by omega) g1 rfl rfl ?_
    refine w_mv (pc1 := 14) (st1 := [.int 1, .int i1_2, .ref 6]) rfl rfl rfl ?_
    refine w_mv (pc1 := 15) (st1 := [.int (i1_2 + 1), .ref 6]) rfl rfl rfl ?_
    refine cw_pf (c1 := .inr (.inl (1, [.ref 7, .int i1_1, .int (i1_2 + 1)]))) (pc1 := 18) rfl (by omega) (by omega) g1 rfl rfl rfl rfl ?_
    have g140 : (va_up G 6 (.inr (.inl (1, [.ref 7, .int i1_1, .int (i1_2 + 1)])))) 7 = .inl (1, (48, .inl f138)) := (va_ne (ne_ao g138 g1)).trans g138
    have g141 : (va_up G 6 (.inr (.inl (1, [.ref 7, .int i1_1, .int (i1_2 + 1)])))) 6 = .inr (.inl (1, [.ref 7, .int i1_1, .int (i1_2 + 1)])) := up_eq
    refine w_mv (pc1 := 19) (st1 := [.ref 6]) rfl rfl rfl ?_
    refine w_call (M' := sM_26) (vals := [.ref 6]) (rest := []) (lv' := [(0, .ref 6)]) rfl rfl rfl rfl rfl rfl (cH_rcv (by omega) (by omega) g141) rfl rfl rfl ?_
    refine w_mv (pc1 := 1) (st1 := [.ref 6]) rfl rfl rfl ?_
    refine cw_gf (v := .int (i1_2 + 1)) (pc1 := 4) rfl (by omega) (by omega) g141 rfl rfl ?_
    refine w_mv (pc1 := 5) (st1 := [.ref 6, .int (i1_2 + 1)]) rfl rfl rfl ?_
    refine cw_gf (v := .int i1_1) (pc1 := 8) rfl (by omega) (by omega) g141 rfl rfl ?_
    by_cases h142 : i1_1.toInt ≤ (i1_2 + 1).toInt
    ·
      replace hh := hh.1 h142
      refine w_ige_T (pc1 := 23) rfl rfl (show i1_1.toInt ≤ (i1_2 + 1).toInt from h142) ?_
      refine w_mv (pc1 := 24) (st1 := [.int 0]) rfl rfl rfl ?_
      refine w_iret (pc1 := 22) rfl rfl rfl rfl ?_
      refine w_call (M' := sM_30) (vals := [.int 0]) (rest := []) (lv' := [(0, .int 0)]) rfl rfl rfl rfl rfl rfl rfl rfl rfl rfl ?_
      refine w_mv (pc1 := 1) (st1 := [.int 0]) rfl rfl rfl ?_
      refine w_mv (pc1 := 3) (st1 := [.int 48, .int 0]) rfl rfl rfl ?_
      refine w_mv (pc1 := 16) (st1 := []) rfl rfl rfl ?_
      refine w_mv (pc1 := 17) (st1 := [.int 0]) rfl rfl rfl ?_
      refine w_iret (pc1 := 25) rfl rfl rfl rfl ?_
      refine w_mv (pc1 := 51) (st1 := []) rfl rfl rfl ?_
      obtain ⟨q143a, hh⟩ := hh
      refine cw_new (k := 5) (c1 := .inr (.inl (7, [.int 0, .int 0, .null, .int 0, .int 0]))) (pc1 := 54) rfl rfl rfl rfl ?_
      have g144 : (va_up (va_up G 6 (.inr (.inl (1, [.ref 7, .int i1_1, .int (i1_2 + 1)])))) N (.inr (.inl (7, [.int 0, .int 0, .null, .int 0, .int 0])))) 7 = .inl (1, (48, .inl f138)) := (va_ne (by omega)).trans g140
      have g145 : (va_up (va_up G 6 (.inr (.inl (1, [.ref 7, .int i1_1, .int (i1_2 + 1)])))) N (.inr (.inl (7, [.int 0, .int 0, .null, .int 0, .int 0])))) 6 = .inr (.inl (1, [.ref 7, .int i1_1, .int (i1_2 + 1)])) := (va_ne (by omega)).trans g141
      have g146 : (va_up (va_up G 6 (.inr (.inl (1, [.ref 7, .int i1_1, .int (i1_2 + 1)])))) N (.inr (.inl (7, [.int 0, .int 0, .null, .int 0, .int 0])))) N = .inr (.inl (7, [.int 0, .int 0, .null, .int 0, .int 0])) := up_eq
      refine w_mv (pc1 := 55) (st1 := [.ref N, .ref N]) rfl rfl rfl ?_
      refine w_mv (pc1 := 56) (st1 := [.int 1, .ref N, .ref N]) rfl rfl rfl ?_
      refine w_mv (pc1 := 57) (st1 := [.int (f138 i1_2.toNatClampNeg - 48), .int 1, .ref N, .ref N]) rfl rfl rfl ?_
      refine w_call (M' := sM_29) (vals := [.ref N, .int 1, .int (f138 i1_2.toNatClampNeg - 48)]) (rest := [.ref N]) (lv' := [(0, .ref N), (1, .int 1), (2, .int (f138 i1_2.toNatClampNeg - 48))]) rfl rfl rfl rfl rfl rfl rfl rfl rfl rfl ?_
      refine w_mv (pc1 := 1) (st1 := [.ref N]) rfl rfl rfl ?_
      refine w_obj (pc1 := 4) (st1 := []) rfl rfl rfl ⟨by omega, Nat.le_of_ble_eq_true rfl⟩ rfl ?_
      refine w_mv (pc1 := 5) (st1 := [.ref N]) rfl rfl rfl ?_
      refine w_mv (pc1 := 6) (st1 := [.int 1, .ref N]) rfl rfl rfl ?_
      refine cw_pf (c1 := .inr (.inl (7, [.int 1, .int 0, .null, .int 0, .int 0]))) (pc1 := 9) rfl (by omega) (by omega) g146 rfl rfl rfl rfl ?_
      have g147 : (va_up (va_up (va_up G 6 (.inr (.inl (1, [.ref 7, .int i1_1, .int (i1_2 + 1)])))) N (.inr (.inl (7, [.int 0, .int 0, .null, .int 0, .int 0])))) N (.inr (.inl (7, [.int 1, .int 0, .null, .int 0, .int 0])))) 7 = .inl (1, (48, .inl f138)) := (va_ne (ne_ao g144 g146)).trans g144
      have g148 : (va_up (va_up (va_up G 6 (.inr (.inl (1, [.ref 7, .int i1_1, .int (i1_2 + 1)])))) N (.inr (.inl (7, [.int 0, .int 0, .null, .int 0, .int 0])))) N (.inr (.inl (7, [.int 1, .int 0, .null, .int 0, .int 0])))) 6 = .inr (.inl (1, [.ref 7, .int i1_1, .int (i1_2 + 1)])) := (va_ne (ne_ob g145 g146 (by decide))).trans g145
      have g149 : (va_up (va_up (va_up G 6 (.inr (.inl (1, [.ref 7, .int i1_1, .int (i1_2 + 1)])))) N (.inr (.inl (7, [.int 0, .int 0, .null, .int 0, .int 0])))) N (.inr (.inl (7, [.int 1, .int 0, .null, .int 0, .int 0])))) N = .inr (.inl (7, [.int 1, .int 0, .null, .int 0, .int 0])) := up_eq
      refine w_mv (pc1 := 10) (st1 := [.ref N]) rfl rfl rfl ?_
      refine w_mv (pc1 := 11) (st1 := [.int (f138 i1_2.toNatClampNeg - 48), .ref N]) rfl rfl rfl ?_
      refine cw_pf (c1 := .inr (.inl (7, [.int 1, .int (f138 i1_2.toNatClampNeg - 48), .null, .int 0, .int 0]))) (pc1 := 14) rfl (by omega) (by omega) g149 rfl rfl rfl rfl ?_
      rw [va_uu]
      have g150 : (va_up (va_up (va_up G 6 (.inr (.inl (1, [.ref 7, .int i1_1, .int (i1_2 + 1)])))) N (.inr (.inl (7, [.int 0, .int 0, .null, .int 0, .int 0])))) N (.inr (.inl (7, [.int 1, .int (f138 i1_2.toNatClampNeg - 48), .null, .int 0, .int 0])))) 7 = .inl (1, (48, .inl f138)) := (va_ne (ne_ao g147 g149)).trans ((va_ne (ne_ao g147 g149)).symm.trans g147)
      have g151 : (va_up (va_up (va_up G 6 (.inr (.inl (1, [.ref 7, .int i1_1, .int (i1_2 + 1)])))) N (.inr (.inl (7, [.int 0, .int 0, .null, .int 0, .int 0])))) N (.inr (.inl (7, [.int 1, .int (f138 i1_2.toNatClampNeg - 48), .null, .int 0, .int 0])))) 6 = .inr (.inl (1, [.ref 7, .int i1_1, .int (i1_2 + 1)])) := (va_ne (ne_ob g148 g149 (by decide))).trans ((va_ne (ne_ob g148 g149 (by decide))).symm.trans g148)
      have g152 : (va_up (va_up (va_up G 6 (.inr (.inl (1, [.ref 7, .int i1_1, .int (i1_2 + 1)])))) N (.inr (.inl (7, [.int 0, .int 0, .null, .int 0, .int 0])))) N (.inr (.inl (7, [.int 1, .int (f138 i1_2.toNatClampNeg - 48), .null, .int 0, .int 0])))) N = .inr (.inl (7, [.int 1, .int (f138 i1_2.toNatClampNeg - 48), .null, .int 0, .int 0])) := up_eq
      refine w_mv (pc1 := 15) (st1 := [.ref N]) rfl rfl rfl ?_
      refine w_mv (pc1 := 16) (st1 := [.int 1, .ref N]) rfl rfl rfl ?_
      refine w_mv (pc1 := 17) (st1 := [.int 2, .int 1, .ref N]) rfl rfl rfl ?_
      refine w_mv (pc1 := 24) (st1 := [.ref N]) rfl rfl rfl ?_
      refine w_mv (pc1 := 25) (st1 := [.int 0, .ref N]) rfl rfl rfl ?_
      refine cw_newq (n := 0) (pc1 := 28) rfl rfl (by decide) (by decide) (by decide) ?_
      have g153 : (va_up (va_up (va_up (va_up G 6 (.inr (.inl (1, [.ref 7, .int i1_1, .int (i1_2 + 1)])))) N (.inr (.inl (7, [.int 0, .int 0, .null, .int 0, .int 0])))) N (.inr (.inl (7, [.int 1, .int (f138 i1_2.toNatClampNeg - 48), .null, .int 0, .int 0])))) (N + 1) (.inl (8, (0, .inr (.inr (.inr (.inr (fun _ => none)))))))) 7 = .inl (1, (48, .inl f138)) := (va_ne (by omega)).trans g150
      have g154 : (va_up (va_up (va_up (va_up G 6 (.inr (.inl (1, [.ref 7, .int i1_1, .int (i1_2 + 1)])))) N (.inr (.inl (7, [.int 0, .int 0, .null, .int 0, .int 0])))) N (.inr (.inl (7, [.int 1, .int (f138 i1_2.toNatClampNeg - 48), .null, .int 0, .int 0])))) (N + 1) (.inl (8, (0, .inr (.inr (.inr (.inr (fun _ => none)))))))) 6 = .inr (.inl (1, [.ref 7, .int i1_1, .int (i1_2 + 1)])) := (va_ne (by omega)).trans g151
      have g155 : (va_up (va_up (va_up (va_up G 6 (.inr (.inl (1, [.ref 7, .int i1_1, .int (i1_2 + 1)])))) N (.inr (.inl (7, [.int 0, .int 0, .null, .int 0, .int 0])))) N (.inr (.inl (7, [.int 1, .int (f138 i1_2.toNatClampNeg - 48), .null, .int 0, .int 0])))) (N + 1) (.inl (8, (0, .inr (.inr (.inr (.inr (fun _ => none)))))))) N = .inr (.inl (7, [.int 1, .int (f138 i1_2.toNatClampNeg - 48), .null, .int 0, .int 0])) := (va_ne (by omega)).trans g152
      have g156 : (va_up (va_up (va_up (va_up G 6 (.inr (.inl (1, [.ref 7, .int i1_1, .int (i1_2 + 1)])))) N (.inr (.inl (7, [.int 0, .int 0, .null, .int 0, .int 0])))) N (.inr (.inl (7, [.int 1, .int (f138 i1_2.toNatClampNeg - 48), .null, .int 0, .int 0])))) (N + 1) (.inl (8, (0, .inr (.inr (.inr (.inr (fun _ => none)))))))) (N + 1) = .inl (8, (0, .inr (.inr (.inr (.inr (fun _ => none)))))) := up_eq
      refine cw_pf (c1 := .inr (.inl (7, [.int 1, .int (f138 i1_2.toNatClampNeg - 48), .ref (N + 1), .int 0, .int 0]))) (pc1 := 31) rfl (by omega) (by omega) g155 rfl rfl rfl rfl ?_
      have g157 : (va_up (va_up (va_up (va_up (va_up G 6 (.inr (.inl (1, [.ref 7, .int i1_1, .int (i1_2 + 1)])))) N (.inr (.inl (7, [.int 0, .int 0, .null, .int 0, .int 0])))) N (.inr (.inl (7, [.int 1, .int (f138 i1_2.toNatClampNeg - 48), .null, .int 0, .int 0])))) (N + 1) (.inl (8, (0, .inr (.inr (.inr (.inr (fun _ => none)))))))) N (.inr (.inl (7, [.int 1, .int (f138 i1_2.toNatClampNeg - 48), .ref (N + 1), .int 0, .int 0])))) 7 = .inl (1, (48, .inl f138)) := (va_ne (ne_ao g153 g155)).trans g153
      have g158 : (va_up (va_up (va_up (va_up (va_up G 6 (.inr (.inl (1, [.ref 7, .int i1_1, .int (i1_2 + 1)])))) N (.inr (.inl (7, [.int 0, .int 0, .null, .int 0, .int 0])))) N (.inr (.inl (7, [.int 1, .int (f138 i1_2.toNatClampNeg - 48), .null, .int 0, .int 0])))) (N + 1) (.inl (8, (0, .inr (.inr (.inr (.inr (fun _ => none)))))))) N (.inr (.inl (7, [.int 1, .int (f138 i1_2.toNatClampNeg - 48), .ref (N + 1), .int 0, .int 0])))) 6 = .inr (.inl (1, [.ref 7, .int i1_1, .int (i1_2 + 1)])) := (va_ne (ne_ob g154 g155 (by decide))).trans g154
      have g159 : (va_up (va_up (va_up (va_up (va_up G 6 (.inr (.inl (1, [.ref 7, .int i1_1, .int (i1_2 + 1)])))) N (.inr (.inl (7, [.int 0, .int 0, .null, .int 0, .int 0])))) N (.inr (.inl (7, [.int 1, .int (f138 i1_2.toNatClampNeg - 48), .null, .int 0, .int 0])))) (N + 1) (.inl (8, (0, .inr (.inr (.inr (.inr (fun _ => none)))))))) N (.inr (.inl (7, [.int 1, .int (f138 i1_2.toNatClampNeg - 48), .ref (N + 1), .int 0, .int 0])))) (N + 1) = .inl (8, (0, .inr (.inr (.inr (.inr (fun _ => none)))))) := (va_ne (ne_ao g156 g155)).trans g156
      have g160 : (va_up (va_up (va_up (va_up (va_up G 6 (.inr (.inl (1, [.ref 7, .int i1_1, .int (i1_2 + 1)])))) N (.inr (.inl (7, [.int 0, .int 0, .null, .int 0, .int 0])))) N (.inr (.inl (7, [.int 1, .int (f138 i1_2.toNatClampNeg - 48), .null, .int 0, .int 0])))) (N + 1) (.inl (8, (0, .inr (.inr (.inr (.inr (fun _ => none)))))))) N (.inr (.inl (7, [.int 1, .int (f138 i1_2.toNatClampNeg - 48), .ref (N + 1), .int 0, .int 0])))) N = .inr (.inl (7, [.int 1, .int (f138 i1_2.toNatClampNeg - 48), .ref (N + 1), .int 0, .int 0])) := up_eq
      refine w_mv (pc1 := 32) (st1 := [.ref N]) rfl rfl rfl ?_
      refine w_mv (pc1 := 33) (st1 := [.int 0, .ref N]) rfl rfl rfl ?_
      refine cw_pf (c1 := .inr (.inl (7, [.int 1, .int (f138 i1_2.toNatClampNeg - 48), .ref (N + 1), .int 0, .int 0]))) (pc1 := 36) rfl (by omega) (by omega) g160 rfl rfl rfl rfl ?_
      rw [va_uu]
      have g161 : (va_up (va_up (va_up (va_up (va_up G 6 (.inr (.inl (1, [.ref 7, .int i1_1, .int (i1_2 + 1)])))) N (.inr (.inl (7, [.int 0, .int 0, .null, .int 0, .int 0])))) N (.inr (.inl (7, [.int 1, .int (f138 i1_2.toNatClampNeg - 48), .null, .int 0, .int 0])))) (N + 1) (.inl (8, (0, .inr (.inr (.inr (.inr (fun _ => none)))))))) N (.inr (.inl (7, [.int 1, .int (f138 i1_2.toNatClampNeg - 48), .ref (N + 1), .int 0, .int 0])))) 7 = .inl (1, (48, .inl f138)) := (va_ne (ne_ao g157 g160)).trans ((va_ne (ne_ao g157 g160)).symm.trans g157)
      have g162 : (va_up (va_up (va_up (va_up (va_up G 6 (.inr (.inl (1, [.ref 7, .int i1_1, .int (i1_2 + 1)])))) N (.inr (.inl (7, [.int 0, .int 0, .null, .int 0, .int 0])))) N (.inr (.inl (7, [.int 1, .int (f138 i1_2.toNatClampNeg - 48), .null, .int 0, .int 0])))) (N + 1) (.inl (8, (0, .inr (.inr (.inr (.inr (fun _ => none)))))))) N (.inr (.inl (7, [.int 1, .int (f138 i1_2.toNatClampNeg - 48), .ref (N + 1), .int 0, .int 0])))) 6 = .inr (.inl (1, [.ref 7, .int i1_1, .int (i1_2 + 1)])) := (va_ne (ne_ob g158 g160 (by decide))).trans ((va_ne (ne_ob g158 g160 (by decide))).symm.trans g158)
      have g163 : (va_up (va_up (va_up (va_up (va_up G 6 (.inr (.inl (1, [.ref 7, .int i1_1, .int (i1_2 + 1)])))) N (.inr (.inl (7, [.int 0, .int 0, .null, .int 0, .int 0])))) N (.inr (.inl (7, [.int 1, .int (f138 i1_2.toNatClampNeg - 48), .null, .int 0, .int 0])))) (N + 1) (.inl (8, (0, .inr (.inr (.inr (.inr (fun _ => none)))))))) N (.inr (.inl (7, [.int 1, .int (f138 i1_2.toNatClampNeg - 48), .ref (N + 1), .int 0, .int 0])))) (N + 1) = .inl (8, (0, .inr (.inr (.inr (.inr (fun _ => none)))))) := (va_ne (ne_ao g159 g160)).trans ((va_ne (ne_ao g159 g160)).symm.trans g159)
      have g164 : (va_up (va_up (va_up (va_up (va_up G 6 (.inr (.inl (1, [.ref 7, .int i1_1, .int (i1_2 + 1)])))) N (.inr (.inl (7, [.int 0, .int 0, .null, .int 0, .int 0])))) N (.inr (.inl (7, [.int 1, .int (f138 i1_2.toNatClampNeg - 48), .null, .int 0, .int 0])))) (N + 1) (.inl (8, (0, .inr (.inr (.inr (.inr (fun _ => none)))))))) N (.inr (.inl (7, [.int 1, .int (f138 i1_2.toNatClampNeg - 48), .ref (N + 1), .int 0, .int 0])))) N = .inr (.inl (7, [.int 1, .int (f138 i1_2.toNatClampNeg - 48), .ref (N + 1), .int 0, .int 0])) := up_eq
      refine w_mv (pc1 := 37) (st1 := [.ref N]) rfl rfl rfl ?_
      refine w_mv (pc1 := 38) (st1 := [.int 1, .ref N]) rfl rfl rfl ?_
      refine w_mv (pc1 := 47) (st1 := [.ref N]) rfl rfl rfl ?_
      refine w_mv (pc1 := 48) (st1 := [.int 0, .ref N]) rfl rfl rfl ?_
      refine cw_pf (c1 := .inr (.inl (7, [.int 1, .int (f138 i1_2.toNatClampNeg - 48), .ref (N + 1), .int 0, .int 0]))) (pc1 := 51) rfl (by omega) (by omega) g164 rfl rfl rfl rfl ?_
      rw [va_uu]
      have g165 : (va_up (va_up (va_up (va_up (va_up G 6 (.inr (.inl (1, [.ref 7, .int i1_1, .int (i1_2 + 1)])))) N (.inr (.inl (7, [.int 0, .int 0, .null, .int 0, .int 0])))) N (.inr (.inl (7, [.int 1, .int (f138 i1_2.toNatClampNeg - 48), .null, .int 0, .int 0])))) (N + 1) (.inl (8, (0, .inr (.inr (.inr (.inr (fun _ => none)))))))) N (.inr (.inl (7, [.int 1, .int (f138 i1_2.toNatClampNeg - 48), .ref (N + 1), .int 0, .int 0])))) 7 = .inl (1, (48, .inl f138)) := (va_ne (ne_ao g161 g164)).trans ((va_ne (ne_ao g161 g164)).symm.trans g161)
      have g166 : (va_up (va_up (va_up (va_up (va_up G 6 (.inr (.inl (1, [.ref 7, .int i1_1, .int (i1_2 + 1)])))) N (.inr (.inl (7, [.int 0, .int 0, .null, .int 0, .int 0])))) N (.inr (.inl (7, [.int 1, .int (f138 i1_2.toNatClampNeg - 48), .null, .int 0, .int 0])))) (N + 1) (.inl (8, (0, .inr (.inr (.inr (.inr (fun _ => none)))))))) N (.inr (.inl (7, [.int 1, .int (f138 i1_2.toNatClampNeg - 48), .ref (N + 1), .int 0, .int 0])))) 6 = .inr (.inl (1, [.ref 7, .int i1_1, .int (i1_2 + 1)])) := (va_ne (ne_ob g162 g164 (by decide))).trans ((va_ne (ne_ob g162 g164 (by decide))).symm.trans g162)
      have g167 : (va_up (va_up (va_up (va_up (va_up G 6 (.inr (.inl (1, [.ref 7, .int i1_1, .int (i1_2 + 1)])))) N (.inr (.inl (7, [.int 0, .int 0, .null, .int 0, .int 0])))) N (.inr (.inl (7, [.int 1, .int (f138 i1_2.toNatClampNeg - 48), .null, .int 0, .int 0])))) (N + 1) (.inl (8, (0, .inr (.inr (.inr (.inr (fun _ => none)))))))) N (.inr (.inl (7, [.int 1, .int (f138 i1_2.toNatClampNeg - 48), .ref (N + 1), .int 0, .int 0])))) (N + 1) = .inl (8, (0, .inr (.inr (.inr (.inr (fun _ => none)))))) := (va_ne (ne_ao g163 g164)).trans ((va_ne (ne_ao g163 g164)).symm.trans g163)
      have g168 : (va_up (va_up (va_up (va_up (va_up G 6 (.inr (.inl (1, [.ref 7, .int i1_1, .int (i1_2 + 1)])))) N (.inr (.inl (7, [.int 0, .int 0, .null, .int 0, .int 0])))) N (.inr (.inl (7, [.int 1, .int (f138 i1_2.toNatClampNeg - 48), .null, .int 0, .int 0])))) (N + 1) (.inl (8, (0, .inr (.inr (.inr (.inr (fun _ => none)))))))) N (.inr (.inl (7, [.int 1, .int (f138 i1_2.toNatClampNeg - 48), .ref (N + 1), .int 0, .int 0])))) N = .inr (.inl (7, [.int 1, .int (f138 i1_2.toNatClampNeg - 48), .ref (N + 1), .int 0, .int 0])) := up_eq
      refine w_vret (pc1 := 60) rfl rfl rfl ?_
      refine sx_wp.stop rfl rfl rfl ?_
      exact c_acc (hP _ _ _ _ _ hh) (by omega) (by omega)
    ·
      replace hh := hh.2 (Int.not_le.mp h142)
      refine w_ige_F (pc1 := 11) rfl (by decide) rfl (show (i1_2 + 1).toInt < i1_1.toInt from (Int.not_le.mp h142)) ?_
      refine w_mv (pc1 := 12) (st1 := [.ref 6]) rfl rfl rfl ?_
      refine cw_gf (v := .ref 7) (pc1 := 15) rfl (by omega) (by omega) g141 rfl rfl ?_
      refine w_mv (pc1 := 16) (st1 := [.ref 6, .ref 7]) rfl rfl rfl ?_
      refine cw_gf (v := .int (i1_2 + 1)) (pc1 := 19) rfl (by omega) (by omega) g141 rfl rfl ?_
      obtain ⟨q169a, q169b, hh⟩ := hh
      refine cw_bld (pc1 := 20) rfl (by omega) g140 q169a q169b rfl ?_
      refine w_mv (pc1 := 24) (st1 := [.int (f138 (i1_2 + 1).toNatClampNeg)]) rfl rfl rfl ?_
      refine w_iret (pc1 := 22) rfl rfl rfl rfl ?_
      refine w_call (M' := sM_30) (vals := [.int (f138 (i1_2 + 1).toNatClampNeg)]) (rest := []) (lv' := [(0, .int (f138 (i1_2 + 1).toNatClampNeg))]) rfl rfl rfl rfl rfl rfl rfl rfl rfl rfl ?_
      refine w_mv (pc1 := 1) (st1 := [.int (f138 (i1_2 + 1).toNatClampNeg)]) rfl rfl rfl ?_
      refine w_mv (pc1 := 3) (st1 := [.int 48, .int (f138 (i1_2 + 1).toNatClampNeg)]) rfl rfl rfl ?_
      by_cases h170 : (f138 (i1_2 + 1).toNatClampNeg).toInt < 48
      ·
        replace hh := hh.1 h170
        refine w_ilt_T (pc1 := 16) rfl rfl (show (f138 (i1_2 + 1).toNatClampNeg).toInt < 48 from h170) ?_
        refine w_mv (pc1 := 17) (st1 := [.int 0]) rfl rfl rfl ?_
        refine w_iret (pc1 := 25) rfl rfl rfl rfl ?_
        refine w_mv (pc1 := 51) (st1 := []) rfl rfl rfl ?_
        obtain ⟨q171a, hh⟩ := hh
        refine cw_new (k := 5) (c1 := .inr (.inl (7, [.int 0, .int 0, .null, .int 0, .int 0]))) (pc1 := 54) rfl rfl rfl rfl ?_
        have g172 : (va_up (va_up G 6 (.inr (.inl (1, [.ref 7, .int i1_1, .int (i1_2 + 1)])))) N (.inr (.inl (7, [.int 0, .int 0, .null, .int 0, .int 0])))) 7 = .inl (1, (48, .inl f138)) := (va_ne (by omega)).trans g140
        have g173 : (va_up (va_up G 6 (.inr (.inl (1, [.ref 7, .int i1_1, .int (i1_2 + 1)])))) N (.inr (.inl (7, [.int 0, .int 0, .null, .int 0, .int 0])))) 6 = .inr (.inl (1, [.ref 7, .int i1_1, .int (i1_2 + 1)])) := (va_ne (by omega)).trans g141
        have g174 : (va_up (va_up G 6 (.inr (.inl (1, [.ref 7, .int i1_1, .int (i1_2 + 1)])))) N (.inr (.inl (7, [.int 0, .int 0, .null, .int 0, .int 0])))) N = .inr (.inl (7, [.int 0, .int 0, .null, .int 0, .int 0])) := up_eq
        refine w_mv (pc1 := 55) (st1 := [.ref N, .ref N]) rfl rfl rfl ?_
        refine w_mv (pc1 := 56) (st1 := [.int 1, .ref N, .ref N]) rfl rfl rfl ?_
        refine w_mv (pc1 := 57) (st1 := [.int (f138 i1_2.toNatClampNeg - 48), .int 1, .ref N, .ref N]) rfl rfl rfl ?_
        refine w_call (M' := sM_29) (vals := [.ref N, .int 1, .int (f138 i1_2.toNatClampNeg - 48)]) (rest := [.ref N]) (lv' := [(0, .ref N), (1, .int 1), (2, .int (f138 i1_2.toNatClampNeg - 48))]) rfl rfl rfl rfl rfl rfl rfl rfl rfl rfl ?_
        refine w_mv (pc1 := 1) (st1 := [.ref N]) rfl rfl rfl ?_
        refine w_obj (pc1 := 4) (st1 := []) rfl rfl rfl ⟨by omega, Nat.le_of_ble_eq_true rfl⟩ rfl ?_
        refine w_mv (pc1 := 5) (st1 := [.ref N]) rfl rfl rfl ?_
        refine w_mv (pc1 := 6) (st1 := [.int 1, .ref N]) rfl rfl rfl ?_
        refine cw_pf (c1 := .inr (.inl (7, [.int 1, .int 0, .null, .int 0, .int 0]))) (pc1 := 9) rfl (by omega) (by omega) g174 rfl rfl rfl rfl ?_
        have g175 : (va_up (va_up (va_up G 6 (.inr (.inl (1, [.ref 7, .int i1_1, .int (i1_2 + 1)])))) N (.inr (.inl (7, [.int 0, .int 0, .null, .int 0, .int 0])))) N (.inr (.inl (7, [.int 1, .int 0, .null, .int 0, .int 0])))) 7 = .inl (1, (48, .inl f138)) := (va_ne (ne_ao g172 g174)).trans g172
        have g176 : (va_up (va_up (va_up G 6 (.inr (.inl (1, [.ref 7, .int i1_1, .int (i1_2 + 1)])))) N (.inr (.inl (7, [.int 0, .int 0, .null, .int 0, .int 0])))) N (.inr (.inl (7, [.int 1, .int 0, .null, .int 0, .int 0])))) 6 = .inr (.inl (1, [.ref 7, .int i1_1, .int (i1_2 + 1)])) := (va_ne (ne_ob g173 g174 (by decide))).trans g173
        have g177 : (va_up (va_up (va_up G 6 (.inr (.inl (1, [.ref 7, .int i1_1, .int (i1_2 + 1)])))) N (.inr (.inl (7, [.int 0, .int 0, .null, .int 0, .int 0])))) N (.inr (.inl (7, [.int 1, .int 0, .null, .int 0, .int 0])))) N = .inr (.inl (7, [.int 1, .int 0, .null, .int 0, .int 0])) := up_eq
        refine w_mv (pc1 := 10) (st1 := [.ref N]) rfl rfl rfl ?_
        refine w_mv (pc1 := 11) (st1 := [.int (f138 i1_2.toNatClampNeg - 48), .ref N]) rfl rfl rfl ?_
        refine cw_pf (c1 := .inr (.inl (7, [.int 1, .int (f138 i1_2.toNatClampNeg - 48), .null, .int 0, .int 0]))) (pc1 := 14) rfl (by omega) (by omega) g177 rfl rfl rfl rfl ?_
        rw [va_uu]
        have g178 : (va_up (va_up (va_up G 6 (.inr (.inl (1, [.ref 7, .int i1_1, .int (i1_2 + 1)])))) N (.inr (.inl (7, [.int 0, .int 0, .null, .int 0, .int 0])))) N (.inr (.inl (7, [.int 1, .int (f138 i1_2.toNatClampNeg - 48), .null, .int 0, .int 0])))) 7 = .inl (1, (48, .inl f138)) := (va_ne (ne_ao g175 g177)).trans ((va_ne (ne_ao g175 g177)).symm.trans g175)
        have g179 : (va_up (va_up (va_up G 6 (.inr (.inl (1, [.ref 7, .int i1_1, .int (i1_2 + 1)])))) N (.inr (.inl (7, [.int 0, .int 0, .null, .int 0, .int 0])))) N (.inr (.inl (7, [.int 1, .int (f138 i1_2.toNatClampNeg - 48), .null, .int 0, .int 0])))) 6 = .inr (.inl (1, [.ref 7, .int i1_1, .int (i1_2 + 1)])) := (va_ne (ne_ob g176 g177 (by decide))).trans ((va_ne (ne_ob g176 g177 (by decide))).symm.trans g176)
        have g180 : (va_up (va_up (va_up G 6 (.inr (.inl (1, [.ref 7, .int i1_1, .int (i1_2 + 1)])))) N (.inr (.inl (7, [.int 0, .int 0, .null, .int 0, .int 0])))) N (.inr (.inl (7, [.int 1, .int (f138 i1_2.toNatClampNeg - 48), .null, .int 0, .int 0])))) N = .inr (.inl (7, [.int 1, .int (f138 i1_2.toNatClampNeg - 48), .null, .int 0, .int 0])) := up_eq
        refine w_mv (pc1 := 15) (st1 := [.ref N]) rfl rfl rfl ?_
        refine w_mv (pc1 := 16) (st1 := [.int 1, .ref N]) rfl rfl rfl ?_
        refine w_mv (pc1 := 17) (st1 := [.int 2, .int 1, .ref N]) rfl rfl rfl ?_
        refine w_mv (pc1 := 24) (st1 := [.ref N]) rfl rfl rfl ?_
        refine w_mv (pc1 := 25) (st1 := [.int 0, .ref N]) rfl rfl rfl ?_
        refine cw_newq (n := 0) (pc1 := 28) rfl rfl (by decide) (by decide) (by decide) ?_
        have g181 : (va_up (va_up (va_up (va_up G 6 (.inr (.inl (1, [.ref 7, .int i1_1, .int (i1_2 + 1)])))) N (.inr (.inl (7, [.int 0, .int 0, .null, .int 0, .int 0])))) N (.inr (.inl (7, [.int 1, .int (f138 i1_2.toNatClampNeg - 48), .null, .int 0, .int 0])))) (N + 1) (.inl (8, (0, .inr (.inr (.inr (.inr (fun _ => none)))))))) 7 = .inl (1, (48, .inl f138)) := (va_ne (by omega)).trans g178
        have g182 : (va_up (va_up (va_up (va_up G 6 (.inr (.inl (1, [.ref 7, .int i1_1, .int (i1_2 + 1)])))) N (.inr (.inl (7, [.int 0, .int 0, .null, .int 0, .int 0])))) N (.inr (.inl (7, [.int 1, .int (f138 i1_2.toNatClampNeg - 48), .null, .int 0, .int 0])))) (N + 1) (.inl (8, (0, .inr (.inr (.inr (.inr (fun _ => none)))))))) 6 = .inr (.inl (1, [.ref 7, .int i1_1, .int (i1_2 + 1)])) := (va_ne (by omega)).trans g179
        have g183 : (va_up (va_up (va_up (va_up G 6 (.inr (.inl (1, [.ref 7, .int i1_1, .int (i1_2 + 1)])))) N (.inr (.inl (7, [.int 0, .int 0, .null, .int 0, .int 0])))) N (.inr (.inl (7, [.int 1, .int (f138 i1_2.toNatClampNeg - 48), .null, .int 0, .int 0])))) (N + 1) (.inl (8, (0, .inr (.inr (.inr (.inr (fun _ => none)))))))) N = .inr (.inl (7, [.int 1, .int (f138 i1_2.toNatClampNeg - 48), .null, .int 0, .int 0])) := (va_ne (by omega)).trans g180
        have g184 : (va_up (va_up (va_up (va_up G 6 (.inr (.inl (1, [.ref 7, .int i1_1, .int (i1_2 + 1)])))) N (.inr (.inl (7, [.int 0, .int 0, .null, .int 0, .int 0])))) N (.inr (.inl (7, [.int 1, .int (f138 i1_2.toNatClampNeg - 48), .null, .int 0, .int 0])))) (N + 1) (.inl (8, (0, .inr (.inr (.inr (.inr (fun _ => none)))))))) (N + 1) = .inl (8, (0, .inr (.inr (.inr (.inr (fun _ => none)))))) := up_eq
        refine cw_pf (c1 := .inr (.inl (7, [.int 1, .int (f138 i1_2.toNatClampNeg - 48), .ref (N + 1), .int 0, .int 0]))) (pc1 := 31) rfl (by omega) (by omega) g183 rfl rfl rfl rfl ?_
        have g185 : (va_up (va_up (va_up (va_up (va_up G 6 (.inr (.inl (1, [.ref 7, .int i1_1, .int (i1_2 + 1)])))) N (.inr (.inl (7, [.int 0, .int 0, .null, .int 0, .int 0])))) N (.inr (.inl (7, [.int 1, .int (f138 i1_2.toNatClampNeg - 48), .null, .int 0, .int 0])))) (N + 1) (.inl (8, (0, .inr (.inr (.inr (.inr (fun _ => none)))))))) N (.inr (.inl (7, [.int 1, .int (f138 i1_2.toNatClampNeg - 48), .ref (N + 1), .int 0, .int 0])))) 7 = .inl (1, (48, .inl f138)) := (va_ne (ne_ao g181 g183)).trans g181
        have g186 : (va_up (va_up (va_up (va_up (va_up G 6 (.inr (.inl (1, [.ref 7, .int i1_1, .int (i1_2 + 1)])))) N (.inr (.inl (7, [.int 0, .int 0, .null, .int 0, .int 0])))) N (.inr (.inl (7, [.int 1, .int (f138 i1_2.toNatClampNeg - 48), .null, .int 0, .int 0])))) (N + 1) (.inl (8, (0, .inr (.inr (.inr (.inr (fun _ => none)))))))) N (.inr (.inl (7, [.int 1, .int (f138 i1_2.toNatClampNeg - 48), .ref (N + 1), .int 0, .int 0])))) 6 = .inr (.inl (1, [.ref 7, .int i1_1, .int (i1_2 + 1)])) := (va_ne (ne_ob g182 g183 (by decide))).trans g182
        have g187 : (va_up (va_up (va_up (va_up (va_up G 6 (.inr (.inl (1, [.ref 7, .int i1_1, .int (i1_2 + 1)])))) N (.inr (.inl (7, [.int 0, .int 0, .null, .int 0, .int 0])))) N (.inr (.inl (7, [.int 1, .int (f138 i1_2.toNatClampNeg - 48), .null, .int 0, .int 0])))) (N + 1) (.inl (8, (0, .inr (.inr (.inr (.inr (fun _ => none)))))))) N (.inr (.inl (7, [.int 1, .int (f138 i1_2.toNatClampNeg - 48), .ref (N + 1), .int 0, .int 0])))) (N + 1) = .inl (8, (0, .inr (.inr (.inr (.inr (fun _ => none)))))) := (va_ne (ne_ao g184 g183)).trans g184
        have g188 : (va_up (va_up (va_up (va_up (va_up G 6 (.inr (.inl (1, [.ref 7, .int i1_1, .int (i1_2 + 1)])))) N (.inr (.inl (7, [.int 0, .int 0, .null, .int 0, .int 0])))) N (.inr (.inl (7, [.int 1, .int (f138 i1_2.toNatClampNeg - 48), .null, .int 0, .int 0])))) (N + 1) (.inl (8, (0, .inr (.inr (.inr (.inr (fun _ => none)))))))) N (.inr (.inl (7, [.int 1, .int (f138 i1_2.toNatClampNeg - 48), .ref (N + 1), .int 0, .int 0])))) N = .inr (.inl (7, [.int 1, .int (f138 i1_2.toNatClampNeg - 48), .ref (N + 1), .int 0, .int 0])) := up_eq
        refine w_mv (pc1 := 32) (st1 := [.ref N]) rfl rfl rfl ?_
        refine w_mv (pc1 := 33) (st1 := [.int 0, .ref N]) rfl rfl rfl ?_
        refine cw_pf (c1 := .inr (.inl (7, [.int 1, .int (f138 i1_2.toNatClampNeg - 48), .ref (N + 1), .int 0, .int 0]))) (pc1 := 36) rfl (by omega) (by omega) g188 rfl rfl rfl rfl ?_
        rw [va_uu]
        have g189 : (va_up (va_up (va_up (va_up (va_up G 6 (.inr (.inl (1, [.ref 7, .int i1_1, .int (i1_2 + 1)])))) N (.inr (.inl (7, [.int 0, .int 0, .null, .int 0, .int 0])))) N (.inr (.inl (7, [.int 1, .int (f138 i1_2.toNatClampNeg - 48), .null, .int 0, .int 0])))) (N + 1) (.inl (8, (0, .inr (.inr (.inr (.inr (fun _ => none)))))))) N (.inr (.inl (7, [.int 1, .int (f138 i1_2.toNatClampNeg - 48), .ref (N + 1), .int 0, .int 0])))) 7 = .inl (1, (48, .inl f138)) := (va_ne (ne_ao g185 g188)).trans ((va_ne (ne_ao g185 g188)).symm.trans g185)
        have g190 : (va_up (va_up (va_up (va_up (va_up G 6 (.inr (.inl (1, [.ref 7, .int i1_1, .int (i1_2 + 1)])))) N (.inr (.inl (7, [.int 0, .int 0, .null, .int 0, .int 0])))) N (.inr (.inl (7, [.int 1, .int (f138 i1_2.toNatClampNeg - 48), .null, .int 0, .int 0])))) (N + 1) (.inl (8, (0, .inr (.inr (.inr (.inr (fun _ => none)))))))) N (.inr (.inl (7, [.int 1, .int (f138 i1_2.toNatClampNeg - 48), .ref (N + 1), .int 0, .int 0])))) 6 = .inr (.inl (1, [.ref 7, .int i1_1, .int (i1_2 + 1)])) := (va_ne (ne_ob g186 g188 (by decide))).trans ((va_ne (ne_ob g186 g188 (by decide))).symm.trans g186)
        have g191 : (va_up (va_up (va_up (va_up (va_up G 6 (.inr (.inl (1, [.ref 7, .int i1_1, .int (i1_2 + 1)])))) N (.inr (.inl (7, [.int 0, .int 0, .null, .int 0, .int 0])))) N (.inr (.inl (7, [.int 1, .int (f138 i1_2.toNatClampNeg - 48), .null, .int 0, .int 0])))) (N + 1) (.inl (8, (0, .inr (.inr (.inr (.inr (fun _ => none)))))))) N (.inr (.inl (7, [.int 1, .int (f138 i1_2.toNatClampNeg - 48), .ref (N + 1), .int 0, .int 0])))) (N + 1) = .inl (8, (0, .inr (.inr (.inr (.inr (fun _ => none)))))) := (va_ne (ne_ao g187 g188)).trans ((va_ne (ne_ao g187 g188)).symm.trans g187)
        have g192 : (va_up (va_up (va_up (va_up (va_up G 6 (.inr (.inl (1, [.ref 7, .int i1_1, .int (i1_2 + 1)])))) N (.inr (.inl (7, [.int 0, .int 0, .null, .int 0, .int 0])))) N (.inr (.inl (7, [.int 1, .int (f138 i1_2.toNatClampNeg - 48), .null, .int 0, .int 0])))) (N + 1) (.inl (8, (0, .inr (.inr (.inr (.inr (fun _ => none)))))))) N (.inr (.inl (7, [.int 1, .int (f138 i1_2.toNatClampNeg - 48), .ref (N + 1), .int 0, .int 0])))) N = .inr (.inl (7, [.int 1, .int (f138 i1_2.toNatClampNeg - 48), .ref (N + 1), .int 0, .int 0])) := up_eq
        refine w_mv (pc1 := 37) (st1 := [.ref N]) rfl rfl rfl ?_
        refine w_mv (pc1 := 38) (st1 := [.int 1, .ref N]) rfl rfl rfl ?_
        refine w_mv (pc1 := 47) (st1 := [.ref N]) rfl rfl rfl ?_
        refine w_mv (pc1 := 48) (st1 := [.int 0, .ref N]) rfl rfl rfl ?_
        refine cw_pf (c1 := .inr (.inl (7, [.int 1, .int (f138 i1_2.toNatClampNeg - 48), .ref (N + 1), .int 0, .int 0]))) (pc1 := 51) rfl (by omega) (by omega) g192 rfl rfl rfl rfl ?_
        rw [va_uu]
        have g193 : (va_up (va_up (va_up (va_up (va_up G 6 (.inr (.inl (1, [.ref 7, .int i1_1, .int (i1_2 + 1)])))) N (.inr (.inl (7, [.int 0, .int 0, .null, .int 0, .int 0])))) N (.inr (.inl (7, [.int 1, .int (f138 i1_2.toNatClampNeg - 48), .null, .int 0, .int 0])))) (N + 1) (.inl (8, (0, .inr (.inr (.inr (.inr (fun _ => none)))))))) N (.inr (.inl (7, [.int 1, .int (f138 i1_2.toNatClampNeg - 48), .ref (N + 1), .int 0, .int 0])))) 7 = .inl (1, (48, .inl f138)) := (va_ne (ne_ao g189 g192)).trans ((va_ne (ne_ao g189 g192)).symm.trans g189)
        have g194 : (va_up (va_up (va_up (va_up (va_up G 6 (.inr (.inl (1, [.ref 7, .int i1_1, .int (i1_2 + 1)])))) N (.inr (.inl (7, [.int 0, .int 0, .null, .int 0, .int 0])))) N (.inr (.inl (7, [.int 1, .int (f138 i1_2.toNatClampNeg - 48), .null, .int 0, .int 0])))) (N + 1) (.inl (8, (0, .inr (.inr (.inr (.inr (fun _ => none)))))))) N (.inr (.inl (7, [.int 1, .int (f138 i1_2.toNatClampNeg - 48), .ref (N + 1), .int 0, .int 0])))) 6 = .inr (.inl (1, [.ref 7, .int i1_1, .int (i1_2 + 1)])) := (va_ne (ne_ob g190 g192 (by decide))).trans ((va_ne (ne_ob g190 g192 (by decide))).symm.trans g190)
        have g195 : (va_up (va_up (va_up (va_up (va_up G 6 (.inr (.inl (1, [.ref 7, .int i1_1, .int (i1_2 + 1)])))) N (.inr (.inl (7, [.int 0, .int 0, .null, .int 0, .int 0])))) N (.inr (.inl (7, [.int 1, .int (f138 i1_2.toNatClampNeg - 48), .null, .int 0, .int 0])))) (N + 1) (.inl (8, (0, .inr (.inr (.inr (.inr (fun _ => none)))))))) N (.inr (.inl (7, [.int 1, .int (f138 i1_2.toNatClampNeg - 48), .ref (N + 1), .int 0, .int 0])))) (N + 1) = .inl (8, (0, .inr (.inr (.inr (.inr (fun _ => none)))))) := (va_ne (ne_ao g191 g192)).trans ((va_ne (ne_ao g191 g192)).symm.trans g191)
        have g196 : (va_up (va_up (va_up (va_up (va_up G 6 (.inr (.inl (1, [.ref 7, .int i1_1, .int (i1_2 + 1)])))) N (.inr (.inl (7, [.int 0, .int 0, .null, .int 0, .int 0])))) N (.inr (.inl (7, [.int 1, .int (f138 i1_2.toNatClampNeg - 48), .null, .int 0, .int 0])))) (N + 1) (.inl (8, (0, .inr (.inr (.inr (.inr (fun _ => none)))))))) N (.inr (.inl (7, [.int 1, .int (f138 i1_2.toNatClampNeg - 48), .ref (N + 1), .int 0, .int 0])))) N = .inr (.inl (7, [.int 1, .int (f138 i1_2.toNatClampNeg - 48), .ref (N + 1), .int 0, .int 0])) := up_eq
        refine w_vret (pc1 := 60) rfl rfl rfl ?_
        refine sx_wp.stop rfl rfl rfl ?_
        exact c_acc (hP _ _ _ _ _ hh) (by omega) (by omega)
      ·
        replace hh := hh.2 (Int.not_lt.mp h170)
        refine w_ilt_F (pc1 := 6) rfl (by decide) rfl (show 48 ≤ (f138 (i1_2 + 1).toNatClampNeg).toInt from (Int.not_lt.mp h170)) ?_
        refine w_mv (pc1 := 7) (st1 := [.int (f138 (i1_2 + 1).toNatClampNeg)]) rfl rfl rfl ?_
        refine w_mv (pc1 := 9) (st1 := [.int 57, .int (f138 (i1_2 + 1).toNatClampNeg)]) rfl rfl rfl ?_
        by_cases h197 : 57 < (f138 (i1_2 + 1).toNatClampNeg).toInt
        ·
          replace hh := hh.1 h197
          refine w_igt_T (pc1 := 16) rfl rfl (show 57 < (f138 (i1_2 + 1).toNatClampNeg).toInt from h197) ?_
          refine w_mv (pc1 := 17) (st1 := [.int 0]) rfl rfl rfl ?_
          refine w_iret (pc1 := 25) rfl rfl rfl rfl ?_
          refine w_mv (pc1 := 51) (st1 := []) rfl rfl rfl ?_
          obtain ⟨q198a, hh⟩ := hh
          refine cw_new (k := 5) (c1 := .inr (.inl (7, [.int 0, .int 0, .null, .int 0, .int 0]))) (pc1 := 54) rfl rfl rfl rfl ?_
          have g199 : (va_up (va_up G 6 (.inr (.inl (1, [.ref 7, .int i1_1, .int (i1_2 + 1)])))) N (.inr (.inl (7, [.int 0, .int 0, .null, .int 0, .int 0])))) 7 = .inl (1, (48, .inl f138)) := (va_ne (by omega)).trans g140
          have g200 : (va_up (va_up G 6 (.inr (.inl (1, [.ref 7, .int i1_1, .int (i1_2 + 1)])))) N (.inr (.inl (7, [.int 0, .int 0, .null, .int 0, .int 0])))) 6 = .inr (.inl (1, [.ref 7, .int i1_1, .int (i1_2 + 1)])) := (va_ne (by omega)).trans g141
          have g201 : (va_up (va_up G 6 (.inr (.inl (1, [.ref 7, .int i1_1, .int (i1_2 + 1)])))) N (.inr (.inl (7, [.int 0, .int 0, .null, .int 0, .int 0])))) N = .inr (.inl (7, [.int 0, .int 0, .null, .int 0, .int 0])) := up_eq
          refine w_mv (pc1 := 55) (st1 := [.ref N, .ref N]) rfl rfl rfl ?_
          refine w_mv (pc1 := 56) (st1 := [.int 1, .ref N, .ref N]) rfl rfl rfl ?_
          refine w_mv (pc1 := 57) (st1 := [.int (f138 i1_2.toNatClampNeg - 48), .int 1, .ref N, .ref N]) rfl rfl rfl ?_
          refine w_call (M' := sM_29) (vals := [.ref N, .int 1, .int (f138 i1_2.toNatClampNeg - 48)]) (rest := [.ref N]) (lv' := [(0, .ref N), (1, .int 1), (2, .int (f138 i1_2.toNatClampNeg - 48))]) rfl rfl rfl rfl rfl rfl rfl rfl rfl rfl ?_
          refine w_mv (pc1 := 1) (st1 := [.ref N]) rfl rfl rfl ?_
          refine w_obj (pc1 := 4) (st1 := []) rfl rfl rfl ⟨by omega, Nat.le_of_ble_eq_true rfl⟩ rfl ?_
          refine w_mv (pc1 := 5) (st1 := [.ref N]) rfl rfl rfl ?_
          refine w_mv (pc1 := 6) (st1 := [.int 1, .ref N]) rfl rfl rfl ?_
          refine cw_pf (c1 := .inr (.inl (7, [.int 1, .int 0, .null, .int 0, .int 0]))) (pc1 := 9) rfl (by omega) (by omega) g201 rfl rfl rfl rfl ?_
          have g202 : (va_up (va_up (va_up G 6 (.inr (.inl (1, [.ref 7, .int i1_1, .int (i1_2 + 1)])))) N (.inr (.inl (7, [.int 0, .int 0, .null, .int 0, .int 0])))) N (.inr (.inl (7, [.int 1, .int 0, .null, .int 0, .int 0])))) 7 = .inl (1, (48, .inl f138)) := (va_ne (ne_ao g199 g201)).trans g199
          have g203 : (va_up (va_up (va_up G 6 (.inr (.inl (1, [.ref 7, .int i1_1, .int (i1_2 + 1)])))) N (.inr (.inl (7, [.int 0, .int 0, .null, .int 0, .int 0])))) N (.inr (.inl (7, [.int 1, .int 0, .null, .int 0, .int 0])))) 6 = .inr (.inl (1, [.ref 7, .int i1_1, .int (i1_2 + 1)])) := (va_ne (ne_ob g200 g201 (by decide))).trans g200
          have g204 : (va_up (va_up (va_up G 6 (.inr (.inl (1, [.ref 7, .int i1_1, .int (i1_2 + 1)])))) N (.inr (.inl (7, [.int 0, .int 0, .null, .int 0, .int 0])))) N (.inr (.inl (7, [.int 1, .int 0, .null, .int 0, .int 0])))) N = .inr (.inl (7, [.int 1, .int 0, .null, .int 0, .int 0])) := up_eq
          refine w_mv (pc1 := 10) (st1 := [.ref N]) rfl rfl rfl ?_
          refine w_mv (pc1 := 11) (st1 := [.int (f138 i1_2.toNatClampNeg - 48), .ref N]) rfl rfl rfl ?_
          refine cw_pf (c1 := .inr (.inl (7, [.int 1, .int (f138 i1_2.toNatClampNeg - 48), .null, .int 0, .int 0]))) (pc1 := 14) rfl (by omega) (by omega) g204 rfl rfl rfl rfl ?_
          rw [va_uu]
          have g205 : (va_up (va_up (va_up G 6 (.inr (.inl (1, [.ref 7, .int i1_1, .int (i1_2 + 1)])))) N (.inr (.inl (7, [.int 0, .int 0, .null, .int 0, .int 0])))) N (.inr (.inl (7, [.int 1, .int (f138 i1_2.toNatClampNeg - 48), .null, .int 0, .int 0])))) 7 = .inl (1, (48, .inl f138)) := (va_ne (ne_ao g202 g204)).trans ((va_ne (ne_ao g202 g204)).symm.trans g202)
          have g206 : (va_up (va_up (va_up G 6 (.inr (.inl (1, [.ref 7, .int i1_1, .int (i1_2 + 1)])))) N (.inr (.inl (7, [.int 0, .int 0, .null, .int 0, .int 0])))) N (.inr (.inl (7, [.int 1, .int (f138 i1_2.toNatClampNeg - 48), .null, .int 0, .int 0])))) 6 = .inr (.inl (1, [.ref 7, .int i1_1, .int (i1_2 + 1)])) := (va_ne (ne_ob g203 g204 (by decide))).trans ((va_ne (ne_ob g203 g204 (by decide))).symm.trans g203)
          have g207 : (va_up (va_up (va_up G 6 (.inr (.inl (1, [.ref 7, .int i1_1, .int (i1_2 + 1)])))) N (.inr (.inl (7, [.int 0, .int 0, .null, .int 0, .int 0])))) N (.inr (.inl (7, [.int 1, .int (f138 i1_2.toNatClampNeg - 48), .null, .int 0, .int 0])))) N = .inr (.inl (7, [.int 1, .int (f138 i1_2.toNatClampNeg - 48), .null, .int 0, .int 0])) := up_eq
          refine w_mv (pc1 := 15) (st1 := [.ref N]) rfl rfl rfl ?_
          refine w_mv (pc1 := 16) (st1 := [.int 1, .ref N]) rfl rfl rfl ?_
          refine w_mv (pc1 := 17) (st1 := [.int 2, .int 1, .ref N]) rfl rfl rfl ?_
          refine w_mv (pc1 := 24) (st1 := [.ref N]) rfl rfl rfl ?_
          refine w_mv (pc1 := 25) (st1 := [.int 0, .ref N]) rfl rfl rfl ?_
          refine cw_newq (n := 0) (pc1 := 28) rfl rfl (by decide) (by decide) (by decide) ?_
          have g208 : (va_up (va_up (va_up (va_up G 6 (.inr (.inl (1, [.ref 7, .int i1_1, .int (i1_2 + 1)])))) N (.inr (.inl (7, [.int 0, .int 0, .null, .int 0, .int 0])))) N (.inr (.inl (7, [.int 1, .int (f138 i1_2.toNatClampNeg - 48), .null, .int 0, .int 0])))) (N + 1) (.inl (8, (0, .inr (.inr (.inr (.inr (fun _ => none)))))))) 7 = .inl (1, (48, .inl f138)) := (va_ne (by omega)).trans g205
          have g209 : (va_up (va_up (va_up (va_up G 6 (.inr (.inl (1, [.ref 7, .int i1_1, .int (i1_2 + 1)])))) N (.inr (.inl (7, [.int 0, .int 0, .null, .int 0, .int 0])))) N (.inr (.inl (7, [.int 1, .int (f138 i1_2.toNatClampNeg - 48), .null, .int 0, .int 0])))) (N + 1) (.inl (8, (0, .inr (.inr (.inr (.inr (fun _ => none)))))))) 6 = .inr (.inl (1, [.ref 7, .int i1_1, .int (i1_2 + 1)])) := (va_ne (by omega)).trans g206
          have g210 : (va_up (va_up (va_up (va_up G 6 (.inr (.inl (1, [.ref 7, .int i1_1, .int (i1_2 + 1)])))) N (.inr (.inl (7, [.int 0, .int 0, .null, .int 0, .int 0])))) N (.inr (.inl (7, [.int 1, .int (f138 i1_2.toNatClampNeg - 48), .null, .int 0, .int 0])))) (N + 1) (.inl (8, (0, .inr (.inr (.inr (.inr (fun _ => none)))))))) N = .inr (.inl (7, [.int 1, .int (f138 i1_2.toNatClampNeg - 48), .null, .int 0, .int 0])) := (va_ne (by omega)).trans g207
          have g211 : (va_up (va_up (va_up (va_up G 6 (.inr (.inl (1, [.ref 7, .int i1_1, .int (i1_2 + 1)])))) N (.inr (.inl (7, [.int 0, .int 0, .null, .int 0, .int 0])))) N (.inr (.inl (7, [.int 1, .int (f138 i1_2.toNatClampNeg - 48), .null, .int 0, .int 0])))) (N + 1) (.inl (8, (0, .inr (.inr (.inr (.inr (fun _ => none)))))))) (N + 1) = .inl (8, (0, .inr (.inr (.inr (.inr (fun _ => none)))))) := up_eq
          refine cw_pf (c1 := .inr (.inl (7, [.int 1, .int (f138 i1_2.toNatClampNeg - 48), .ref (N + 1), .int 0, .int 0]))) (pc1 := 31) rfl (by omega) (by omega) g210 rfl rfl rfl rfl ?_
          have g212 : (va_up (va_up (va_up (va_up (va_up G 6 (.inr (.inl (1, [.ref 7, .int i1_1, .int (i1_2 + 1)])))) N (.inr (.inl (7, [.int 0, .int 0, .null, .int 0, .int 0])))) N (.inr (.inl (7, [.int 1, .int (f138 i1_2.toNatClampNeg - 48), .null, .int 0, .int 0])))) (N + 1) (.inl (8, (0, .inr (.inr (.inr (.inr (fun _ => none)))))))) N (.inr (.inl (7, [.int 1, .int (f138 i1_2.toNatClampNeg - 48), .ref (N + 1), .int 0, .int 0])))) 7 = .inl (1, (48, .inl f138)) := (va_ne (ne_ao g208 g210)).trans g208
          have g213 : (va_up (va_up (va_up (va_up (va_up G 6 (.inr (.inl (1, [.ref 7, .int i1_1, .int (i1_2 + 1)])))) N (.inr (.inl (7, [.int 0, .int 0, .null, .int 0, .int 0])))) N (.inr (.inl (7, [.int 1, .int (f138 i1_2.toNatClampNeg - 48), .null, .int 0, .int 0])))) (N + 1) (.inl (8, (0, .inr (.inr (.inr (.inr (fun _ => none)))))))) N (.inr (.inl (7, [.int 1, .int (f138 i1_2.toNatClampNeg - 48), .ref (N + 1), .int 0, .int 0])))) 6 = .inr (.inl (1, [.ref 7, .int i1_1, .int (i1_2 + 1)])) := (va_ne (ne_ob g209 g210 (by decide))).trans g209
          have g214 : (va_up (va_up (va_up (va_up (va_up G 6 (.inr (.inl (1, [.ref 7, .int i1_1, .int (i1_2 + 1)])))) N (.inr (.inl (7, [.int 0, .int 0, .null, .int 0, .int 0])))) N (.inr (.inl (7, [.int 1, .int (f138 i1_2.toNatClampNeg - 48), .null, .int 0, .int 0])))) (N + 1) (.inl (8, (0, .inr (.inr (.inr (.inr (fun _ => none)))))))) N (.inr (.inl (7, [.int 1, .int (f138 i1_2.toNatClampNeg - 48), .ref (N + 1), .int 0, .int 0])))) (N + 1) = .inl (8, (0, .inr (.inr (.inr (.inr (fun _ => none)))))) := (va_ne (ne_ao g211 g210)).trans g211
          have g215 : (va_up (va_up (va_up (va_up (va_up G 6 (.inr (.inl (1, [.ref 7, .int i1_1, .int (i1_2 + 1)])))) N (.inr (.inl (7, [.int 0, .int 0, .null, .int 0, .int 0])))) N (.inr (.inl (7, [.int 1, .int (f138 i1_2.toNatClampNeg - 48), .null, .int 0, .int 0])))) (N + 1) (.inl (8, (0, .inr (.inr (.inr (.inr (fun _ => none)))))))) N (.inr (.inl (7, [.int 1, .int (f138 i1_2.toNatClampNeg - 48), .ref (N + 1), .int 0, .int 0])))) N = .inr (.inl (7, [.int 1, .int (f138 i1_2.toNatClampNeg - 48), .ref (N + 1), .int 0, .int 0])) := up_eq
          refine w_mv (pc1 := 32) (st1 := [.ref N]) rfl rfl rfl ?_
          refine w_mv (pc1 := 33) (st1 := [.int 0, .ref N]) rfl rfl rfl ?_
          refine cw_pf (c1 := .inr (.inl (7, [.int 1, .int (f138 i1_2.toNatClampNeg - 48), .ref (N + 1), .int 0, .int 0]))) (pc1 := 36) rfl (by omega) (by omega) g215 rfl rfl rfl rfl ?_
          rw [va_uu]
          have g216 : (va_up (va_up (va_up (va_up (va_up G 6 (.inr (.inl (1, [.ref 7, .int i1_1, .int (i1_2 + 1)])))) N (.inr (.inl (7, [.int 0, .int 0, .null, .int 0, .int 0])))) N (.inr (.inl (7, [.int 1, .int (f138 i1_2.toNatClampNeg - 48), .null, .int 0, .int 0])))) (N + 1) (.inl (8, (0, .inr (.inr (.inr (.inr (fun _ => none)))))))) N (.inr (.inl (7, [.int 1, .int (f138 i1_2.toNatClampNeg - 48), .ref (N + 1), .int 0, .int 0])))) 7 = .inl (1, (48, .inl f138)) := (va_ne (ne_ao g212 g215)).trans ((va_ne (ne_ao g212 g215)).symm.trans g212)
          have g217 : (va_up (va_up (va_up (va_up (va_up G 6 (.inr (.inl (1, [.ref 7, .int i1_1, .int (i1_2 + 1)])))) N (.inr (.inl (7, [.int 0, .int 0, .null, .int 0, .int 0])))) N (.inr (.inl (7, [.int 1, .int (f138 i1_2.toNatClampNeg - 48), .null, .int 0, .int 0])))) (N + 1) (.inl (8, (0, .inr (.inr (.inr (.inr (fun _ => none)))))))) N (.inr (.inl (7, [.int 1, .int (f138 i1_2.toNatClampNeg - 48), .ref (N + 1), .int 0, .int 0])))) 6 = .inr (.inl (1, [.ref 7, .int i1_1, .int (i1_2 + 1)])) := (va_ne (ne_ob g213 g215 (by decide))).trans ((va_ne (ne_ob g213 g215 (by decide))).symm.trans g213)
          have g218 : (va_up (va_up (va_up (va_up (va_up G 6 (.inr (.inl (1, [.ref 7, .int i1_1, .int (i1_2 + 1)])))) N (.inr (.inl (7, [.int 0, .int 0, .null, .int 0, .int 0])))) N (.inr (.inl (7, [.int 1, .int (f138 i1_2.toNatClampNeg - 48), .null, .int 0, .int 0])))) (N + 1) (.inl (8, (0, .inr (.inr (.inr (.inr (fun _ => none)))))))) N (.inr (.inl (7, [.int 1, .int (f138 i1_2.toNatClampNeg - 48), .ref (N + 1), .int 0, .int 0])))) (N + 1) = .inl (8, (0, .inr (.inr (.inr (.inr (fun _ => none)))))) := (va_ne (ne_ao g214 g215)).trans ((va_ne (ne_ao g214 g215)).symm.trans g214)
          have g219 : (va_up (va_up (va_up (va_up (va_up G 6 (.inr (.inl (1, [.ref 7, .int i1_1, .int (i1_2 + 1)])))) N (.inr (.inl (7, [.int 0, .int 0, .null, .int 0, .int 0])))) N (.inr (.inl (7, [.int 1, .int (f138 i1_2.toNatClampNeg - 48), .null, .int 0, .int 0])))) (N + 1) (.inl (8, (0, .inr (.inr (.inr (.inr (fun _ => none)))))))) N (.inr (.inl (7, [.int 1, .int (f138 i1_2.toNatClampNeg - 48), .ref (N + 1), .int 0, .int 0])))) N = .inr (.inl (7, [.int 1, .int (f138 i1_2.toNatClampNeg - 48), .ref (N + 1), .int 0, .int 0])) := up_eq
          refine w_mv (pc1 := 37) (st1 := [.ref N]) rfl rfl rfl ?_
          refine w_mv (pc1 := 38) (st1 := [.int 1, .ref N]) rfl rfl rfl ?_
          refine w_mv (pc1 := 47) (st1 := [.ref N]) rfl rfl rfl ?_
          refine w_mv (pc1 := 48) (st1 := [.int 0, .ref N]) rfl rfl rfl ?_
          refine cw_pf (c1 := .inr (.inl (7, [.int 1, .int (f138 i1_2.toNatClampNeg - 48), .ref (N + 1), .int 0, .int 0]))) (pc1 := 51) rfl (by omega) (by omega) g219 rfl rfl rfl rfl ?_
          rw [va_uu]
          have g220 : (va_up (va_up (va_up (va_up (va_up G 6 (.inr (.inl (1, [.ref 7, .int i1_1, .int (i1_2 + 1)])))) N (.inr (.inl (7, [.int 0, .int 0, .null, .int 0, .int 0])))) N (.inr (.inl (7, [.int 1, .int (f138 i1_2.toNatClampNeg - 48), .null, .int 0, .int 0])))) (N + 1) (.inl (8, (0, .inr (.inr (.inr (.inr (fun _ => none)))))))) N (.inr (.inl (7, [.int 1, .int (f138 i1_2.toNatClampNeg - 48), .ref (N + 1), .int 0, .int 0])))) 7 = .inl (1, (48, .inl f138)) := (va_ne (ne_ao g216 g219)).trans ((va_ne (ne_ao g216 g219)).symm.trans g216)
          have g221 : (va_up (va_up (va_up (va_up (va_up G 6 (.inr (.inl (1, [.ref 7, .int i1_1, .int (i1_2 + 1)])))) N (.inr (.inl (7, [.int 0, .int 0, .null, .int 0, .int 0])))) N (.inr (.inl (7, [.int 1, .int (f138 i1_2.toNatClampNeg - 48), .null, .int 0, .int 0])))) (N + 1) (.inl (8, (0, .inr (.inr (.inr (.inr (fun _ => none)))))))) N (.inr (.inl (7, [.int 1, .int (f138 i1_2.toNatClampNeg - 48), .ref (N + 1), .int 0, .int 0])))) 6 = .inr (.inl (1, [.ref 7, .int i1_1, .int (i1_2 + 1)])) := (va_ne (ne_ob g217 g219 (by decide))).trans ((va_ne (ne_ob g217 g219 (by decide))).symm.trans g217)
          have g222 : (va_up (va_up (va_up (va_up (va_up G 6 (.inr (.inl (1, [.ref 7, .int i1_1, .int (i1_2 + 1)])))) N (.inr (.inl (7, [.int 0, .int 0, .null, .int 0, .int 0])))) N (.inr (.inl (7, [.int 1, .int (f138 i1_2.toNatClampNeg - 48), .null, .int 0, .int 0])))) (N + 1) (.inl (8, (0, .inr (.inr (.inr (.inr (fun _ => none)))))))) N (.inr (.inl (7, [.int 1, .int (f138 i1_2.toNatClampNeg - 48), .ref (N + 1), .int 0, .int 0])))) (N + 1) = .inl (8, (0, .inr (.inr (.inr (.inr (fun _ => none)))))) := (va_ne (ne_ao g218 g219)).trans ((va_ne (ne_ao g218 g219)).symm.trans g218)
          have g223 : (va_up (va_up (va_up (va_up (va_up G 6 (.inr (.inl (1, [.ref 7, .int i1_1, .int (i1_2 + 1)])))) N (.inr (.inl (7, [.int 0, .int 0, .null, .int 0, .int 0])))) N (.inr (.inl (7, [.int 1, .int (f138 i1_2.toNatClampNeg - 48), .null, .int 0, .int 0])))) (N + 1) (.inl (8, (0, .inr (.inr (.inr (.inr (fun _ => none)))))))) N (.inr (.inl (7, [.int 1, .int (f138 i1_2.toNatClampNeg - 48), .ref (N + 1), .int 0, .int 0])))) N = .inr (.inl (7, [.int 1, .int (f138 i1_2.toNatClampNeg - 48), .ref (N + 1), .int 0, .int 0])) := up_eq
          refine w_vret (pc1 := 60) rfl rfl rfl ?_
          refine sx_wp.stop rfl rfl rfl ?_
          exact c_acc (hP _ _ _ _ _ hh) (by omega) (by omega)
        ·
          replace hh := hh.2 (Int.not_lt.mp h197)
          refine w_igt_F (pc1 := 12) rfl (by decide) rfl (show (f138 (i1_2 + 1).toNatClampNeg).toInt ≤ 57 from (Int.not_lt.mp h197)) ?_
          refine w_mv (pc1 := 13) (st1 := [.int 1]) rfl rfl rfl ?_
          refine w_mv (pc1 := 17) (st1 := [.int 1]) rfl rfl rfl ?_
          refine w_iret (pc1 := 25) rfl rfl rfl rfl ?_
          refine w_mv (pc1 := 28) (st1 := []) rfl rfl rfl ?_
          refine w_mv (pc1 := 29) (st1 := [.int (f138 i1_2.toNatClampNeg - 48)]) rfl rfl rfl ?_
          refine w_mv (pc1 := 31) (st1 := [.int 10, .int (f138 i1_2.toNatClampNeg - 48)]) rfl rfl rfl ?_
          refine w_mv (pc1 := 32) (st1 := [.int ((f138 i1_2.toNatClampNeg - 48) * 10)]) rfl rfl rfl ?_
          refine w_mv (pc1 := 33) (st1 := [.ref 6, .int ((f138 i1_2.toNatClampNeg - 48) * 10)]) rfl rfl rfl ?_
          refine w_call (M' := sM_26) (vals := [.ref 6]) (rest := [.int ((f138 i1_2.toNatClampNeg - 48) * 10)]) (lv' := [(0, .ref 6)]) rfl rfl rfl rfl rfl rfl (cH_rcv (by omega) (by omega) g141) rfl rfl rfl ?_
          refine w_mv (pc1 := 1) (st1 := [.ref 6]) rfl rfl rfl ?_
          refine cw_gf (v := .int (i1_2 + 1)) (pc1 := 4) rfl (by omega) (by omega) g141 rfl rfl ?_
          refine w_mv (pc1 := 5) (st1 := [.ref 6, .int (i1_2 + 1)]) rfl rfl rfl ?_
          refine cw_gf (v := .int i1_1) (pc1 := 8) rfl (by omega) (by omega) g141 rfl rfl ?_
          by_cases h224 : i1_1.toInt ≤ (i1_2 + 1).toInt
          ·
            replace hh := hh.1 h224
            refine w_ige_T (pc1 := 23) rfl rfl (show i1_1.toInt ≤ (i1_2 + 1).toInt from h224) ?_
            refine w_mv (pc1 := 24) (st1 := [.int 0]) rfl rfl rfl ?_
            refine w_iret (pc1 := 36) rfl rfl rfl rfl ?_
            refine w_mv (pc1 := 37) (st1 := [.int (((f138 i1_2.toNatClampNeg - 48) * 10) + 0)]) rfl rfl rfl ?_
            refine w_mv (pc1 := 39) (st1 := [.int 48, .int (((f138 i1_2.toNatClampNeg - 48) * 10) + 0)]) rfl rfl rfl ?_
            refine w_mv (pc1 := 40) (st1 := [.int ((((f138 i1_2.toNatClampNeg - 48) * 10) + 0) - 48)]) rfl rfl rfl ?_
            refine w_mv (pc1 := 41) (lv1 := [(1, .int ((((f138 i1_2.toNatClampNeg - 48) * 10) + 0) - 48)), (0, .ref 6)]) (st1 := []) rfl rfl rfl ?_
            refine w_mv (pc1 := 42) (st1 := [.ref 6]) rfl rfl rfl ?_
            refine w_mv (pc1 := 43) (st1 := [.ref 6, .ref 6]) rfl rfl rfl ?_
            refine cw_gf (v := .int (i1_2 + 1)) (pc1 := 46) rfl (by omega) (by omega) g141 rfl rfl ?_
            refine w_mv (pc1 := 47) (st1 := [.int 1, .int (i1_2 + 1), .ref 6]) rfl rfl rfl ?_
            refine w_mv (pc1 := 48) (st1 := [.int (i1_2 + 1 + 1), .ref 6]) rfl rfl rfl ?_
            refine cw_pf (c1 := .inr (.inl (1, [.ref 7, .int i1_1, .int (i1_2 + 1 + 1)]))) (pc1 := 51) rfl (by omega) (by omega) g141 rfl rfl rfl rfl ?_
            rw [va_uu]
            have g225 : (va_up G 6 (.inr (.inl (1, [.ref 7, .int i1_1, .int (i1_2 + 1 + 1)])))) 7 = .inl (1, (48, .inl f138)) := (va_ne (ne_ao g140 g141)).trans ((va_ne (ne_ao g140 g141)).symm.trans g140)
            have g226 : (va_up G 6 (.inr (.inl (1, [.ref 7, .int i1_1, .int (i1_2 + 1 + 1)])))) 6 = .inr (.inl (1, [.ref 7, .int i1_1, .int (i1_2 + 1 + 1)])) := up_eq
            obtain ⟨q227a, hh⟩ := hh
            refine cw_new (k := 5) (c1 := .inr (.inl (7, [.int 0, .int 0, .null, .int 0, .int 0]))) (pc1 := 54) rfl rfl rfl rfl ?_
            have g228 : (va_up (va_up G 6 (.inr (.inl (1, [.ref 7, .int i1_1, .int (i1_2 + 1 + 1)])))) N (.inr (.inl (7, [.int 0, .int 0, .null, .int 0, .int 0])))) 7 = .inl (1, (48, .inl f138)) := (va_ne (by omega)).trans g225
            have g229 : (va_up (va_up G 6 (.inr (.inl (1, [.ref 7, .int i1_1, .int (i1_2 + 1 + 1)])))) N (.inr (.inl (7, [.int 0, .int 0, .null, .int 0, .int 0])))) 6 = .inr (.inl (1, [.ref 7, .int i1_1, .int (i1_2 + 1 + 1)])) := (va_ne (by omega)).trans g226
            have g230 : (va_up (va_up G 6 (.inr (.inl (1, [.ref 7, .int i1_1, .int (i1_2 + 1 + 1)])))) N (.inr (.inl (7, [.int 0, .int 0, .null, .int 0, .int 0])))) N = .inr (.inl (7, [.int 0, .int 0, .null, .int 0, .int 0])) := up_eq
            refine w_mv (pc1 := 55) (st1 := [.ref N, .ref N]) rfl rfl rfl ?_
            refine w_mv (pc1 := 56) (st1 := [.int 1, .ref N, .ref N]) rfl rfl rfl ?_
            refine w_mv (pc1 := 57) (st1 := [.int ((((f138 i1_2.toNatClampNeg - 48) * 10) + 0) - 48), .int 1, .ref N, .ref N]) rfl rfl rfl ?_
            refine w_call (M' := sM_29) (vals := [.ref N, .int 1, .int ((((f138 i1_2.toNatClampNeg - 48) * 10) + 0) - 48)]) (rest := [.ref N]) (lv' := [(0, .ref N), (1, .int 1), (2, .int ((((f138 i1_2.toNatClampNeg - 48) * 10) + 0) - 48))]) rfl rfl rfl rfl rfl rfl rfl rfl rfl rfl ?_
            refine w_mv (pc1 := 1) (st1 := [.ref N]) rfl rfl rfl ?_
            refine w_obj (pc1 := 4) (st1 := []) rfl rfl rfl ⟨by omega, Nat.le_of_ble_eq_true rfl⟩ rfl ?_
            refine w_mv (pc1 := 5) (st1 := [.ref N]) rfl rfl rfl ?_
            refine w_mv (pc1 := 6) (st1 := [.int 1, .ref N]) rfl rfl rfl ?_
            refine cw_pf (c1 := .inr (.inl (7, [.int 1, .int 0, .null, .int 0, .int 0]))) (pc1 := 9) rfl (by omega) (by omega) g230 rfl rfl rfl rfl ?_
            have g231 : (va_up (va_up (va_up G 6 (.inr (.inl (1, [.ref 7, .int i1_1, .int (i1_2 + 1 + 1)])))) N (.inr (.inl (7, [.int 0, .int 0, .null, .int 0, .int 0])))) N (.inr (.inl (7, [.int 1, .int 0, .null, .int 0, .int 0])))) 7 = .inl (1, (48, .inl f138)) := (va_ne (ne_ao g228 g230)).trans g228
            have g232 : (va_up (va_up (va_up G 6 (.inr (.inl (1, [.ref 7, .int i1_1, .int (i1_2 + 1 + 1)])))) N (.inr (.inl (7, [.int 0, .int 0, .null, .int 0, .int 0])))) N (.inr (.inl (7, [.int 1, .int 0, .null, .int 0, .int 0])))) 6 = .inr (.inl (1, [.ref 7, .int i1_1, .int (i1_2 + 1 + 1)])) := (va_ne (ne_ob g229 g230 (by decide))).trans g229
            have g233 : (va_up (va_up (va_up G 6 (.inr (.inl (1, [.ref 7, .int i1_1, .int (i1_2 + 1 + 1)])))) N (.inr (.inl (7, [.int 0, .int 0, .null, .int 0, .int 0])))) N (.inr (.inl (7, [.int 1, .int 0, .null, .int 0, .int 0])))) N = .inr (.inl (7, [.int 1, .int 0, .null, .int 0, .int 0])) := up_eq
            refine w_mv (pc1 := 10) (st1 := [.ref N]) rfl rfl rfl ?_
            refine w_mv (pc1 := 11) (st1 := [.int ((((f138 i1_2.toNatClampNeg - 48) * 10) + 0) - 48), .ref N]) rfl rfl rfl ?_
            refine cw_pf (c1 := .inr (.inl (7, [.int 1, .int ((((f138 i1_2.toNatClampNeg - 48) * 10) + 0) - 48), .null, .int 0, .int 0]))) (pc1 := 14) rfl (by omega) (by omega) g233 rfl rfl rfl rfl ?_
            rw [va_uu]
            have g234 : (va_up (va_up (va_up G 6 (.inr (.inl (1, [.ref 7, .int i1_1, .int (i1_2 + 1 + 1)])))) N (.inr (.inl (7, [.int 0, .int 0, .null, .int 0, .int 0])))) N (.inr (.inl (7, [.int 1, .int ((((f138 i1_2.toNatClampNeg - 48) * 10) + 0) - 48), .null, .int 0, .int 0])))) 7 = .inl (1, (48, .inl f138)) := (va_ne (ne_ao g231 g233)).trans ((va_ne (ne_ao g231 g233)).symm.trans g231)
            have g235 : (va_up (va_up (va_up G 6 (.inr (.inl (1, [.ref 7, .int i1_1, .int (i1_2 + 1 + 1)])))) N (.inr (.inl (7, [.int 0, .int 0, .null, .int 0, .int 0])))) N (.inr (.inl (7, [.int 1, .int ((((f138 i1_2.toNatClampNeg - 48) * 10) + 0) - 48), .null, .int 0, .int 0])))) 6 = .inr (.inl (1, [.ref 7, .int i1_1, .int (i1_2 + 1 + 1)])) := (va_ne (ne_ob g232 g233 (by decide))).trans ((va_ne (ne_ob g232 g233 (by decide))).symm.trans g232)
            have g236 : (va_up (va_up (va_up G 6 (.inr (.inl (1, [.ref 7, .int i1_1, .int (i1_2 + 1 + 1)])))) N (.inr (.inl (7, [.int 0, .int 0, .null, .int 0, .int 0])))) N (.inr (.inl (7, [.int 1, .int ((((f138 i1_2.toNatClampNeg - 48) * 10) + 0) - 48), .null, .int 0, .int 0])))) N = .inr (.inl (7, [.int 1, .int ((((f138 i1_2.toNatClampNeg - 48) * 10) + 0) - 48), .null, .int 0, .int 0])) := up_eq
            refine w_mv (pc1 := 15) (st1 := [.ref N]) rfl rfl rfl ?_
            refine w_mv (pc1 := 16) (st1 := [.int 1, .ref N]) rfl rfl rfl ?_
            refine w_mv (pc1 := 17) (st1 := [.int 2, .int 1, .ref N]) rfl rfl rfl ?_
            refine w_mv (pc1 := 24) (st1 := [.ref N]) rfl rfl rfl ?_
            refine w_mv (pc1 := 25) (st1 := [.int 0, .ref N]) rfl rfl rfl ?_
            refine cw_newq (n := 0) (pc1 := 28) rfl rfl (by decide) (by decide) (by decide) ?_
            have g237 : (va_up (va_up (va_up (va_up G 6 (.inr (.inl (1, [.ref 7, .int i1_1, .int (i1_2 + 1 + 1)])))) N (.inr (.inl (7, [.int 0, .int 0, .null, .int 0, .int 0])))) N (.inr (.inl (7, [.int 1, .int ((((f138 i1_2.toNatClampNeg - 48) * 10) + 0) - 48), .null, .int 0, .int 0])))) (N + 1) (.inl (8, (0, .inr (.inr (.inr (.inr (fun _ => none)))))))) 7 = .inl (1, (48, .inl f138)) := (va_ne (by omega)).trans g234
            have g238 : (va_up (va_up (va_up (va_up G 6 (.inr (.inl (1, [.ref 7, .int i1_1, .int (i1_2 + 1 + 1)])))) N (.inr (.inl (7, [.int 0, .int 0, .null, .int 0, .int 0])))) N (.inr (.inl (7, [.int 1, .int ((((f138 i1_2.toNatClampNeg - 48) * 10) + 0) - 48), .null, .int 0, .int 0])))) (N + 1) (.inl (8, (0, .inr (.inr (.inr (.inr (fun _ => none)))))))) 6 = .inr (.inl (1, [.ref 7, .int i1_1, .int (i1_2 + 1 + 1)])) := (va_ne (by omega)).trans g235
            have g239 : (va_up (va_up (va_up (va_up G 6 (.inr (.inl (1, [.ref 7, .int i1_1, .int (i1_2 + 1 + 1)])))) N (.inr (.inl (7, [.int 0, .int 0, .null, .int 0, .int 0])))) N (.inr (.inl (7, [.int 1, .int ((((f138 i1_2.toNatClampNeg - 48) * 10) + 0) - 48), .null, .int 0, .int 0])))) (N + 1) (.inl (8, (0, .inr (.inr (.inr (.inr (fun _ => none)))))))) N = .inr (.inl (7, [.int 1, .int ((((f138 i1_2.toNatClampNeg - 48) * 10) + 0) - 48), .null, .int 0, .int 0])) := (va_ne (by omega)).trans g236
            have g240 : (va_up (va_up (va_up (va_up G 6 (.inr (.inl (1, [.ref 7, .int i1_1, .int (i1_2 + 1 + 1)])))) N (.inr (.inl (7, [.int 0, .int 0, .null, .int 0, .int 0])))) N (.inr (.inl (7, [.int 1, .int ((((f138 i1_2.toNatClampNeg - 48) * 10) + 0) - 48), .null, .int 0, .int 0])))) (N + 1) (.inl (8, (0, .inr (.inr (.inr (.inr (fun _ => none)))))))) (N + 1) = .inl (8, (0, .inr (.inr (.inr (.inr (fun _ => none)))))) := up_eq
            refine cw_pf (c1 := .inr (.inl (7, [.int 1, .int ((((f138 i1_2.toNatClampNeg - 48) * 10) + 0) - 48), .ref (N + 1), .int 0, .int 0]))) (pc1 := 31) rfl (by omega) (by omega) g239 rfl rfl rfl rfl ?_
            have g241 : (va_up (va_up (va_up (va_up (va_up G 6 (.inr (.inl (1, [.ref 7, .int i1_1, .int (i1_2 + 1 + 1)])))) N (.inr (.inl (7, [.int 0, .int 0, .null, .int 0, .int 0])))) N (.inr (.inl (7, [.int 1, .int ((((f138 i1_2.toNatClampNeg - 48) * 10) + 0) - 48), .null, .int 0, .int 0])))) (N + 1) (.inl (8, (0, .inr (.inr (.inr (.inr (fun _ => none)))))))) N (.inr (.inl (7, [.int 1, .int ((((f138 i1_2.toNatClampNeg - 48) * 10) + 0) - 48), .ref (N + 1), .int 0, .int 0])))) 7 = .inl (1, (48, .inl f138)) := (va_ne (ne_ao g237 g239)).trans g237
            have g242 : (va_up (va_up (va_up (va_up (va_up G 6 (.inr (.inl (1, [.ref 7, .int i1_1, .int (i1_2 + 1 + 1)])))) N (.inr (.inl (7, [.int 0, .int 0, .null, .int 0, .int 0])))) N (.inr (.inl (7, [.int 1, .int ((((f138 i1_2.toNatClampNeg - 48) * 10) + 0) - 48), .null, .int 0, .int 0])))) (N + 1) (.inl (8, (0, .inr (.inr (.inr (.inr (fun _ => none)))))))) N (.inr (.inl (7, [.int 1, .int ((((f138 i1_2.toNatClampNeg - 48) * 10) + 0) - 48), .ref (N + 1), .int 0, .int 0])))) 6 = .inr (.inl (1, [.ref 7, .int i1_1, .int (i1_2 + 1 + 1)])) := (va_ne (ne_ob g238 g239 (by decide))).trans g238
            have g243 : (va_up (va_up (va_up (va_up (va_up G 6 (.inr (.inl (1, [.ref 7, .int i1_1, .int (i1_2 + 1 + 1)])))) N (.inr (.inl (7, [.int 0, .int 0, .null, .int 0, .int 0])))) N (.inr (.inl (7, [.int 1, .int ((((f138 i1_2.toNatClampNeg - 48) * 10) + 0) - 48), .null, .int 0, .int 0])))) (N + 1) (.inl (8, (0, .inr (.inr (.inr (.inr (fun _ => none)))))))) N (.inr (.inl (7, [.int 1, .int ((((f138 i1_2.toNatClampNeg - 48) * 10) + 0) - 48), .ref (N + 1), .int 0, .int 0])))) (N + 1) = .inl (8, (0, .inr (.inr (.inr (.inr (fun _ => none)))))) := (va_ne (ne_ao g240 g239)).trans g240
            have g244 : (va_up (va_up (va_up (va_up (va_up G 6 (.inr (.inl (1, [.ref 7, .int i1_1, .int (i1_2 + 1 + 1)])))) N (.inr (.inl (7, [.int 0, .int 0, .null, .int 0, .int 0])))) N (.inr (.inl (7, [.int 1, .int ((((f138 i1_2.toNatClampNeg - 48) * 10) + 0) - 48), .null, .int 0, .int 0])))) (N + 1) (.inl (8, (0, .inr (.inr (.inr (.inr (fun _ => none)))))))) N (.inr (.inl (7, [.int 1, .int ((((f138 i1_2.toNatClampNeg - 48) * 10) + 0) - 48), .ref (N + 1), .int 0, .int 0])))) N = .inr (.inl (7, [.int 1, .int ((((f138 i1_2.toNatClampNeg - 48) * 10) + 0) - 48), .ref (N + 1), .int 0, .int 0])) := up_eq
            refine w_mv (pc1 := 32) (st1 := [.ref N]) rfl rfl rfl ?_
            refine w_mv (pc1 := 33) (st1 := [.int 0, .ref N]) rfl rfl rfl ?_
            refine cw_pf (c1 := .inr (.inl (7, [.int 1, .int ((((f138 i1_2.toNatClampNeg - 48) * 10) + 0) - 48), .ref (N + 1), .int 0, .int 0]))) (pc1 := 36) rfl (by omega) (by omega) g244 rfl rfl rfl rfl ?_
            rw [va_uu]
            have g245 : (va_up (va_up (va_up (va_up (va_up G 6 (.inr (.inl (1, [.ref 7, .int i1_1, .int (i1_2 + 1 + 1)])))) N (.inr (.inl (7, [.int 0, .int 0, .null, .int 0, .int 0])))) N (.inr (.inl (7, [.int 1, .int ((((f138 i1_2.toNatClampNeg - 48) * 10) + 0) - 48), .null, .int 0, .int 0])))) (N + 1) (.inl (8, (0, .inr (.inr (.inr (.inr (fun _ => none)))))))) N (.inr (.inl (7, [.int 1, .int ((((f138 i1_2.toNatClampNeg - 48) * 10) + 0) - 48), .ref (N + 1), .int 0, .int 0])))) 7 = .inl (1, (48, .inl f138)) := (va_ne (ne_ao g241 g244)).trans ((va_ne (ne_ao g241 g244)).symm.trans g241)
            have g246 : (va_up (va_up (va_up (va_up (va_up G 6 (.inr (.inl (1, [.ref 7, .int i1_1, .int (i1_2 + 1 + 1)])))) N (.inr (.inl (7, [.int 0, .int 0, .null, .int 0, .int 0])))) N (.inr (.inl (7, [.int 1, .int ((((f138 i1_2.toNatClampNeg - 48) * 10) + 0) - 48), .null, .int 0, .int 0])))) (N + 1) (.inl (8, (0, .inr (.inr (.inr (.inr (fun _ => none)))))))) N (.inr (.inl (7, [.int 1, .int ((((f138 i1_2.toNatClampNeg - 48) * 10) + 0) - 48), .ref (N + 1), .int 0, .int 0])))) 6 = .inr (.inl (1, [.ref 7, .int i1_1, .int (i1_2 + 1 + 1)])) := (va_ne (ne_ob g242 g244 (by decide))).trans ((va_ne (ne_ob g242 g244 (by decide))).symm.trans g242)
            have g247 : (va_up (va_up (va_up (va_up (va_up G 6 (.inr (.inl (1, [.ref 7, .int i1_1, .int (i1_2 + 1 + 1)])))) N (.inr (.inl (7, [.int 0, .int 0, .null, .int 0, .int 0])))) N (.inr (.inl (7, [.int 1, .int ((((f138 i1_2.toNatClampNeg - 48) * 10) + 0) - 48), .null, .int 0, .int 0])))) (N + 1) (.inl (8, (0, .inr (.inr (.inr (.inr (fun _ => none)))))))) N (.inr (.inl (7, [.int 1, .int ((((f138 i1_2.toNatClampNeg - 48) * 10) + 0) - 48), .ref (N + 1), .int 0, .int 0])))) (N + 1) = .inl (8, (0, .inr (.inr (.inr (.inr (fun _ => none)))))) := (va_ne (ne_ao g243 g244)).trans ((va_ne (ne_ao g243 g244)).symm.trans g243)
            have g248 : (va_up (va_up (va_up (va_up (va_up G 6 (.inr (.inl (1, [.ref 7, .int i1_1, .int (i1_2 + 1 + 1)])))) N (.inr (.inl (7, [.int 0, .int 0, .null, .int 0, .int 0])))) N (.inr (.inl (7, [.int 1, .int ((((f138 i1_2.toNatClampNeg - 48) * 10) + 0) - 48), .null, .int 0, .int 0])))) (N + 1) (.inl (8, (0, .inr (.inr (.inr (.inr (fun _ => none)))))))) N (.inr (.inl (7, [.int 1, .int ((((f138 i1_2.toNatClampNeg - 48) * 10) + 0) - 48), .ref (N + 1), .int 0, .int 0])))) N = .inr (.inl (7, [.int 1, .int ((((f138 i1_2.toNatClampNeg - 48) * 10) + 0) - 48), .ref (N + 1), .int 0, .int 0])) := up_eq
            refine w_mv (pc1 := 37) (st1 := [.ref N]) rfl rfl rfl ?_
            refine w_mv (pc1 := 38) (st1 := [.int 1, .ref N]) rfl rfl rfl ?_
            refine w_mv (pc1 := 47) (st1 := [.ref N]) rfl rfl rfl ?_
            refine w_mv (pc1 := 48) (st1 := [.int 0, .ref N]) rfl rfl rfl ?_
            refine cw_pf (c1 := .inr (.inl (7, [.int 1, .int ((((f138 i1_2.toNatClampNeg - 48) * 10) + 0) - 48), .ref (N + 1), .int 0, .int 0]))) (pc1 := 51) rfl (by omega) (by omega) g248 rfl rfl rfl rfl ?_
            rw [va_uu]
            have g249 : (va_up (va_up (va_up (va_up (va_up G 6 (.inr (.inl (1, [.ref 7, .int i1_1, .int (i1_2 + 1 + 1)])))) N (.inr (.inl (7, [.int 0, .int 0, .null, .int 0, .int 0])))) N (.inr (.inl (7, [.int 1, .int ((((f138 i1_2.toNatClampNeg - 48) * 10) + 0) - 48), .null, .int 0, .int 0])))) (N + 1) (.inl (8, (0, .inr (.inr (.inr (.inr (fun _ => none)))))))) N (.inr (.inl (7, [.int 1, .int ((((f138 i1_2.toNatClampNeg - 48) * 10) + 0) - 48), .ref (N + 1), .int 0, .int 0])))) 7 = .inl (1, (48, .inl f138)) := (va_ne (ne_ao g245 g248)).trans ((va_ne (ne_ao g245 g248)).symm.trans g245)
            have g250 : (va_up (va_up (va_up (va_up (va_up G 6 (.inr (.inl (1, [.ref 7, .int i1_1, .int (i1_2 + 1 + 1)])))) N (.inr (.inl (7, [.int 0, .int 0, .null, .int 0, .int 0])))) N (.inr (.inl (7, [.int 1, .int ((((f138 i1_2.toNatClampNeg - 48) * 10) + 0) - 48), .null, .int 0, .int 0])))) (N + 1) (.inl (8, (0, .inr (.inr (.inr (.inr (fun _ => none)))))))) N (.inr (.inl (7, [.int 1, .int ((((f138 i1_2.toNatClampNeg - 48) * 10) + 0) - 48), .ref (N + 1), .int 0, .int 0])))) 6 = .inr (.inl (1, [.ref 7, .int i1_1, .int (i1_2 + 1 + 1)])) := (va_ne (ne_ob g246 g248 (by decide))).trans ((va_ne (ne_ob g246 g248 (by decide))).symm.trans g246)
            have g251 : (va_up (va_up (va_up (va_up (va_up G 6 (.inr (.inl (1, [.ref 7, .int i1_1, .int (i1_2 + 1 + 1)])))) N (.inr (.inl (7, [.int 0, .int 0, .null, .int 0, .int 0])))) N (.inr (.inl (7, [.int 1, .int ((((f138 i1_2.toNatClampNeg - 48) * 10) + 0) - 48), .null, .int 0, .int 0])))) (N + 1) (.inl (8, (0, .inr (.inr (.inr (.inr (fun _ => none)))))))) N (.inr (.inl (7, [.int 1, .int ((((f138 i1_2.toNatClampNeg - 48) * 10) + 0) - 48), .ref (N + 1), .int 0, .int 0])))) (N + 1) = .inl (8, (0, .inr (.inr (.inr (.inr (fun _ => none)))))) := (va_ne (ne_ao g247 g248)).trans ((va_ne (ne_ao g247 g248)).symm.trans g247)
            have g252 : (va_up (va_up (va_up (va_up (va_up G 6 (.inr (.inl (1, [.ref 7, .int i1_1, .int (i1_2 + 1 + 1)])))) N (.inr (.inl (7, [.int 0, .int 0, .null, .int 0, .int 0])))) N (.inr (.inl (7, [.int 1, .int ((((f138 i1_2.toNatClampNeg - 48) * 10) + 0) - 48), .null, .int 0, .int 0])))) (N + 1) (.inl (8, (0, .inr (.inr (.inr (.inr (fun _ => none)))))))) N (.inr (.inl (7, [.int 1, .int ((((f138 i1_2.toNatClampNeg - 48) * 10) + 0) - 48), .ref (N + 1), .int 0, .int 0])))) N = .inr (.inl (7, [.int 1, .int ((((f138 i1_2.toNatClampNeg - 48) * 10) + 0) - 48), .ref (N + 1), .int 0, .int 0])) := up_eq
            refine w_vret (pc1 := 60) rfl rfl rfl ?_
            refine sx_wp.stop rfl rfl rfl ?_
            exact c_acc (hP _ _ _ _ _ hh) (by omega) (by omega)
          ·
            replace hh := hh.2 (Int.not_le.mp h224)
            refine w_ige_F (pc1 := 11) rfl (by decide) rfl (show (i1_2 + 1).toInt < i1_1.toInt from (Int.not_le.mp h224)) ?_
            refine w_mv (pc1 := 12) (st1 := [.ref 6]) rfl rfl rfl ?_
            refine cw_gf (v := .ref 7) (pc1 := 15) rfl (by omega) (by omega) g141 rfl rfl ?_
            refine w_mv (pc1 := 16) (st1 := [.ref 6, .ref 7]) rfl rfl rfl ?_
            refine cw_gf (v := .int (i1_2 + 1)) (pc1 := 19) rfl (by omega) (by omega) g141 rfl rfl ?_
            obtain ⟨q253a, q253b, hh⟩ := hh
            refine cw_bld (pc1 := 20) rfl (by omega) g140 q253a q253b rfl ?_
            refine w_mv (pc1 := 24) (st1 := [.int (f138 (i1_2 + 1).toNatClampNeg)]) rfl rfl rfl ?_
            refine w_iret (pc1 := 36) rfl rfl rfl rfl ?_
            refine w_mv (pc1 := 37) (st1 := [.int (((f138 i1_2.toNatClampNeg - 48) * 10) + (f138 (i1_2 + 1).toNatClampNeg))]) rfl rfl rfl ?_
            refine w_mv (pc1 := 39) (st1 := [.int 48, .int (((f138 i1_2.toNatClampNeg - 48) * 10) + (f138 (i1_2 + 1).toNatClampNeg))]) rfl rfl rfl ?_
            refine w_mv (pc1 := 40) (st1 := [.int ((((f138 i1_2.toNatClampNeg - 48) * 10) + (f138 (i1_2 + 1).toNatClampNeg)) - 48)]) rfl rfl rfl ?_
            refine w_mv (pc1 := 41) (lv1 := [(1, .int ((((f138 i1_2.toNatClampNeg - 48) * 10) + (f138 (i1_2 + 1).toNatClampNeg)) - 48)), (0, .ref 6)]) (st1 := []) rfl rfl rfl ?_
            refine w_mv (pc1 := 42) (st1 := [.ref 6]) rfl rfl rfl ?_
            refine w_mv (pc1 := 43) (st1 := [.ref 6, .ref 6]) rfl rfl rfl ?_
            refine cw_gf (v := .int (i1_2 + 1)) (pc1 := 46) rfl (by omega) (by omega) g141 rfl rfl ?_
            refine w_mv (pc1 := 47) (st1 := [.int 1, .int (i1_2 + 1), .ref 6]) rfl rfl rfl ?_
            refine w_mv (pc1 := 48) (st1 := [.int (i1_2 + 1 + 1), .ref 6]) rfl rfl rfl ?_
            refine cw_pf (c1 := .inr (.inl (1, [.ref 7, .int i1_1, .int (i1_2 + 1 + 1)]))) (pc1 := 51) rfl (by omega) (by omega) g141 rfl rfl rfl rfl ?_
            rw [va_uu]
            have g254 : (va_up G 6 (.inr (.inl (1, [.ref 7, .int i1_1, .int (i1_2 + 1 + 1)])))) 7 = .inl (1, (48, .inl f138)) := (va_ne (ne_ao g140 g141)).trans ((va_ne (ne_ao g140 g141)).symm.trans g140)
            have g255 : (va_up G 6 (.inr (.inl (1, [.ref 7, .int i1_1, .int (i1_2 + 1 + 1)])))) 6 = .inr (.inl (1, [.ref 7, .int i1_1, .int (i1_2 + 1 + 1)])) := up_eq
            obtain ⟨q256a, hh⟩ := hh
            refine cw_new (k := 5) (c1 := .inr (.inl (7, [.int 0, .int 0, .null, .int 0, .int 0]))) (pc1 := 54) rfl rfl rfl rfl ?_
            have g257 : (va_up (va_up G 6 (.inr (.inl (1, [.ref 7, .int i1_1, .int (i1_2 + 1 + 1)])))) N (.inr (.inl (7, [.int 0, .int 0, .null, .int 0, .int 0])))) 7 = .inl (1, (48, .inl f138)) := (va_ne (by omega)).trans g254
            have g258 : (va_up (va_up G 6 (.inr (.inl (1, [.ref 7, .int i1_1, .int (i1_2 + 1 + 1)])))) N (.inr (.inl (7, [.int 0, .int 0, .null, .int 0, .int 0])))) 6 = .inr (.inl (1, [.ref 7, .int i1_1, .int (i1_2 + 1 + 1)])) := (va_ne (by omega)).trans g255
            have g259 : (va_up (va_up G 6 (.inr (.inl (1, [.ref 7, .int i1_1, .int (i1_2 + 1 + 1)])))) N (.inr (.inl (7, [.int 0, .int 0, .null, .int 0, .int 0])))) N = .inr (.inl (7, [.int 0, .int 0, .null, .int 0, .int 0])) := up_eq
            refine w_mv (pc1 := 55) (st1 := [.ref N, .ref N]) rfl rfl rfl ?_
            refine w_mv (pc1 := 56) (st1 := [.int 1, .ref N, .ref N]) rfl rfl rfl ?_
            refine w_mv (pc1 := 57) (st1 := [.int ((((f138 i1_2.toNatClampNeg - 48) * 10) + (f138 (i1_2 + 1).toNatClampNeg)) - 48), .int 1, .ref N, .ref N]) rfl rfl rfl ?_
            refine w_call (M' := sM_29) (vals := [.ref N, .int 1, .int ((((f138 i1_2.toNatClampNeg - 48) * 10) + (f138 (i1_2 + 1).toNatClampNeg)) - 48)]) (rest := [.ref N]) (lv' := [(0, .ref N), (1, .int 1), (2, .int ((((f138 i1_2.toNatClampNeg - 48) * 10) + (f138 (i1_2 + 1).toNatClampNeg)) - 48))]) rfl rfl rfl rfl rfl rfl rfl rfl rfl rfl ?_
            refine w_mv (pc1 := 1) (st1 := [.ref N]) rfl rfl rfl ?_
            refine w_obj (pc1 := 4) (st1 := []) rfl rfl rfl ⟨by omega, Nat.le_of_ble_eq_true rfl⟩ rfl ?_
            refine w_mv (pc1 := 5) (st1 := [.ref N]) rfl rfl rfl ?_
            refine w_mv (pc1 := 6) (st1 := [.int 1, .ref N]) rfl rfl rfl ?_
            refine cw_pf (c1 := .inr (.inl (7, [.int 1, .int 0, .null, .int 0, .int 0]))) (pc1 := 9) rfl (by omega) (by omega) g259 rfl rfl rfl rfl ?_
            have g260 : (va_up (va_up (va_up G 6 (.inr (.inl (1, [.ref 7, .int i1_1, .int (i1_2 + 1 + 1)])))) N (.inr (.inl (7, [.int 0, .int 0, .null, .int 0, .int 0])))) N (.inr (.inl (7, [.int 1, .int 0, .null, .int 0, .int 0])))) 7 = .inl (1, (48, .inl f138)) := (va_ne (ne_ao g257 g259)).trans g257
            have g261 : (va_up (va_up (va_up G 6 (.inr (.inl (1, [.ref 7, .int i1_1, .int (i1_2 + 1 + 1)])))) N (.inr (.inl (7, [.int 0, .int 0, .null, .int 0, .int 0])))) N (.inr (.inl (7, [.int 1, .int 0, .null, .int 0, .int 0])))) 6 = .inr (.inl (1, [.ref 7, .int i1_1, .int (i1_2 + 1 + 1)])) := (va_ne (ne_ob g258 g259 (by decide))).trans g258
            have g262 : (va_up (va_up (va_up G 6 (.inr (.inl (1, [.ref 7, .int i1_1, .int (i1_2 + 1 + 1)])))) N (.inr (.inl (7, [.int 0, .int 0, .null, .int 0, .int 0])))) N (.inr (.inl (7, [.int 1, .int 0, .null, .int 0, .int 0])))) N = .inr (.inl (7, [.int 1, .int 0, .null, .int 0, .int 0])) := up_eq
            refine w_mv (pc1 := 10) (st1 := [.ref N]) rfl rfl rfl ?_
            refine w_mv (pc1 := 11) (st1 := [.int ((((f138 i1_2.toNatClampNeg - 48) * 10) + (f138 (i1_2 + 1).toNatClampNeg)) - 48), .ref N]) rfl rfl rfl ?_
            refine cw_pf (c1 := .inr (.inl (7, [.int 1, .int ((((f138 i1_2.toNatClampNeg - 48) * 10) + (f138 (i1_2 + 1).toNatClampNeg)) - 48), .null, .int 0, .int 0]))) (pc1 := 14) rfl (by omega) (by omega) g262 rfl rfl rfl rfl ?_
            rw [va_uu]
            have g263 : (va_up (va_up (va_up G 6 (.inr (.inl (1, [.ref 7, .int i1_1, .int (i1_2 + 1 + 1)])))) N (.inr (.inl (7, [.int 0, .int 0, .null, .int 0, .int 0])))) N (.inr (.inl (7, [.int 1, .int ((((f138 i1_2.toNatClampNeg - 48) * 10) + (f138 (i1_2 + 1).toNatClampNeg)) - 48), .null, .int 0, .int 0])))) 7 = .inl (1, (48, .inl f138)) := (va_ne (ne_ao g260 g262)).trans ((va_ne (ne_ao g260 g262)).symm.trans g260)
            have g264 : (va_up (va_up (va_up G 6 (.inr (.inl (1, [.ref 7, .int i1_1, .int (i1_2 + 1 + 1)])))) N (.inr (.inl (7, [.int 0, .int 0, .null, .int 0, .int 0])))) N (.inr (.inl (7, [.int 1, .int ((((f138 i1_2.toNatClampNeg - 48) * 10) + (f138 (i1_2 + 1).toNatClampNeg)) - 48), .null, .int 0, .int 0])))) 6 = .inr (.inl (1, [.ref 7, .int i1_1, .int (i1_2 + 1 + 1)])) := (va_ne (ne_ob g261 g262 (by decide))).trans ((va_ne (ne_ob g261 g262 (by decide))).symm.trans g261)
            have g265 : (va_up (va_up (va_up G 6 (.inr (.inl (1, [.ref 7, .int i1_1, .int (i1_2 + 1 + 1)])))) N (.inr (.inl (7, [.int 0, .int 0, .null, .int 0, .int 0])))) N (.inr (.inl (7, [.int 1, .int ((((f138 i1_2.toNatClampNeg - 48) * 10) + (f138 (i1_2 + 1).toNatClampNeg)) - 48), .null, .int 0, .int 0])))) N = .inr (.inl (7, [.int 1, .int ((((f138 i1_2.toNatClampNeg - 48) * 10) + (f138 (i1_2 + 1).toNatClampNeg)) - 48), .null, .int 0, .int 0])) := up_eq
            refine w_mv (pc1 := 15) (st1 := [.ref N]) rfl rfl rfl ?_
            refine w_mv (pc1 := 16) (st1 := [.int 1, .ref N]) rfl rfl rfl ?_
            refine w_mv (pc1 := 17) (st1 := [.int 2, .int 1, .ref N]) rfl rfl rfl ?_
            refine w_mv (pc1 := 24) (st1 := [.ref N]) rfl rfl rfl ?_
            refine w_mv (pc1 := 25) (st1 := [.int 0, .ref N]) rfl rfl rfl ?_
            refine cw_newq (n := 0) (pc1 := 28) rfl rfl (by decide) (by decide) (by decide) ?_
            have g266 : (va_up (va_up (va_up (va_up G 6 (.inr (.inl (1, [.ref 7, .int i1_1, .int (i1_2 + 1 + 1)])))) N (.inr (.inl (7, [.int 0, .int 0, .null, .int 0, .int 0])))) N (.inr (.inl (7, [.int 1, .int ((((f138 i1_2.toNatClampNeg - 48) * 10) + (f138 (i1_2 + 1).toNatClampNeg)) - 48), .null, .int 0, .int 0])))) (N + 1) (.inl (8, (0, .inr (.inr (.inr (.inr (fun _ => none)))))))) 7 = .inl (1, (48, .inl f138)) := (va_ne (by omega)).trans g263
            have g267 : (va_up (va_up (va_up (va_up G 6 (.inr (.inl (1, [.ref 7, .int i1_1, .int (i1_2 + 1 + 1)])))) N (.inr (.inl (7, [.int 0, .int 0, .null, .int 0, .int 0])))) N (.inr (.inl (7, [.int 1, .int ((((f138 i1_2.toNatClampNeg - 48) * 10) + (f138 (i1_2 + 1).toNatClampNeg)) - 48), .null, .int 0, .int 0])))) (N + 1) (.inl (8, (0, .inr (.inr (.inr (.inr (fun _ => none)))))))) 6 = .inr (.inl (1, [.ref 7, .int i1_1, .int (i1_2 + 1 + 1)])) := (va_ne (by omega)).trans g264
            have g268 : (va_up (va_up (va_up (va_up G 6 (.inr (.inl (1, [.ref 7, .int i1_1, .int (i1_2 + 1 + 1)])))) N (.inr (.inl (7, [.int 0, .int 0, .null, .int 0, .int 0])))) N (.inr (.inl (7, [.int 1, .int ((((f138 i1_2.toNatClampNeg - 48) * 10) + (f138 (i1_2 + 1).toNatClampNeg)) - 48), .null, .int 0, .int 0])))) (N + 1) (.inl (8, (0, .inr (.inr (.inr (.inr (fun _ => none)))))))) N = .inr (.inl (7, [.int 1, .int ((((f138 i1_2.toNatClampNeg - 48) * 10) + (f138 (i1_2 + 1).toNatClampNeg)) - 48), .null, .int 0, .int 0])) := (va_ne (by omega)).trans g265
            have g269 : (va_up (va_up (va_up (va_up G 6 (.inr (.inl (1, [.ref 7, .int i1_1, .int (i1_2 + 1 + 1)])))) N (.inr (.inl (7, [.int 0, .int 0, .null, .int 0, .int 0])))) N (.inr (.inl (7, [.int 1, .int ((((f138 i1_2.toNatClampNeg - 48) * 10) + (f138 (i1_2 + 1).toNatClampNeg)) - 48), .null, .int 0, .int 0])))) (N + 1) (.inl (8, (0, .inr (.inr (.inr (.inr (fun _ => none)))))))) (N + 1) = .inl (8, (0, .inr (.inr (.inr (.inr (fun _ => none)))))) := up_eq
            refine cw_pf (c1 := .inr (.inl (7, [.int 1, .int ((((f138 i1_2.toNatClampNeg - 48) * 10) + (f138 (i1_2 + 1).toNatClampNeg)) - 48), .ref (N + 1), .int 0, .int 0]))) (pc1 := 31) rfl (by omega) (by omega) g268 rfl rfl rfl rfl ?_
            have g270 : (va_up (va_up (va_up (va_up (va_up G 6 (.inr (.inl (1, [.ref 7, .int i1_1, .int (i1_2 + 1 + 1)])))) N (.inr (.inl (7, [.int 0, .int 0, .null, .int 0, .int 0])))) N (.inr (.inl (7, [.int 1, .int ((((f138 i1_2.toNatClampNeg - 48) * 10) + (f138 (i1_2 + 1).toNatClampNeg)) - 48), .null, .int 0, .int 0])))) (N + 1) (.inl (8, (0, .inr (.inr (.inr (.inr (fun _ => none)))))))) N (.inr (.inl (7, [.int 1, .int ((((f138 i1_2.toNatClampNeg - 48) * 10) + (f138 (i1_2 + 1).toNatClampNeg)) - 48), .ref (N + 1), .int 0, .int 0])))) 7 = .inl (1, (48, .inl f138)) := (va_ne (ne_ao g266 g268)).trans g266
            have g271 : (va_up (va_up (va_up (va_up (va_up G 6 (.inr (.inl (1, [.ref 7, .int i1_1, .int (i1_2 + 1 + 1)])))) N (.inr (.inl (7, [.int 0, .int 0, .null, .int 0, .int 0])))) N (.inr (.inl (7, [.int 1, .int ((((f138 i1_2.toNatClampNeg - 48) * 10) + (f138 (i1_2 + 1).toNatClampNeg)) - 48), .null, .int 0, .int 0])))) (N + 1) (.inl (8, (0, .inr (.inr (.inr (.inr (fun _ => none)))))))) N (.inr (.inl (7, [.int 1, .int ((((f138 i1_2.toNatClampNeg - 48) * 10) + (f138 (i1_2 + 1).toNatClampNeg)) - 48), .ref (N + 1), .int 0, .int 0])))) 6 = .inr (.inl (1, [.ref 7, .int i1_1, .int (i1_2 + 1 + 1)])) := (va_ne (ne_ob g267 g268 (by decide))).trans g267
            have g272 : (va_up (va_up (va_up (va_up (va_up G 6 (.inr (.inl (1, [.ref 7, .int i1_1, .int (i1_2 + 1 + 1)])))) N (.inr (.inl (7, [.int 0, .int 0, .null, .int 0, .int 0])))) N (.inr (.inl (7, [.int 1, .int ((((f138 i1_2.toNatClampNeg - 48) * 10) + (f138 (i1_2 + 1).toNatClampNeg)) - 48), .null, .int 0, .int 0])))) (N + 1) (.inl (8, (0, .inr (.inr (.inr (.inr (fun _ => none)))))))) N (.inr (.inl (7, [.int 1, .int ((((f138 i1_2.toNatClampNeg - 48) * 10) + (f138 (i1_2 + 1).toNatClampNeg)) - 48), .ref (N + 1), .int 0, .int 0])))) (N + 1) = .inl (8, (0, .inr (.inr (.inr (.inr (fun _ => none)))))) := (va_ne (ne_ao g269 g268)).trans g269
            have g273 : (va_up (va_up (va_up (va_up (va_up G 6 (.inr (.inl (1, [.ref 7, .int i1_1, .int (i1_2 + 1 + 1)])))) N (.inr (.inl (7, [.int 0, .int 0, .null, .int 0, .int 0])))) N (.inr (.inl (7, [.int 1, .int ((((f138 i1_2.toNatClampNeg - 48) * 10) + (f138 (i1_2 + 1).toNatClampNeg)) - 48), .null, .int 0, .int 0])))) (N + 1) (.inl (8, (0, .inr (.inr (.inr (.inr (fun _ => none)))))))) N (.inr (.inl (7, [.int 1, .int ((((f138 i1_2.toNatClampNeg - 48) * 10) + (f138 (i1_2 + 1).toNatClampNeg)) - 48), .ref (N + 1), .int 0, .int 0])))) N = .inr (.inl (7, [.int 1, .int ((((f138 i1_2.toNatClampNeg - 48) * 10) + (f138 (i1_2 + 1).toNatClampNeg)) - 48), .ref (N + 1), .int 0, .int 0])) := up_eq
            refine w_mv (pc1 := 32) (st1 := [.ref N]) rfl rfl rfl ?_
            refine w_mv (pc1 := 33) (st1 := [.int 0, .ref N]) rfl rfl rfl ?_
            refine cw_pf (c1 := .inr (.inl (7, [.int 1, .int ((((f138 i1_2.toNatClampNeg - 48) * 10) + (f138 (i1_2 + 1).toNatClampNeg)) - 48), .ref (N + 1), .int 0, .int 0]))) (pc1 := 36) rfl (by omega) (by omega) g273 rfl rfl rfl rfl ?_
            rw [va_uu]
            have g274 : (va_up (va_up (va_up (va_up (va_up G 6 (.inr (.inl (1, [.ref 7, .int i1_1, .int (i1_2 + 1 + 1)])))) N (.inr (.inl (7, [.int 0, .int 0, .null, .int 0, .int 0])))) N (.inr (.inl (7, [.int 1, .int ((((f138 i1_2.toNatClampNeg - 48) * 10) + (f138 (i1_2 + 1).toNatClampNeg)) - 48), .null, .int 0, .int 0])))) (N + 1) (.inl (8, (0, .inr (.inr (.inr (.inr (fun _ => none)))))))) N (.inr (.inl (7, [.int 1, .int ((((f138 i1_2.toNatClampNeg - 48) * 10) + (f138 (i1_2 + 1).toNatClampNeg)) - 48), .ref (N + 1), .int 0, .int 0])))) 7 = .inl (1, (48, .inl f138)) := (va_ne (ne_ao g270 g273)).trans ((va_ne (ne_ao g270 g273)).symm.trans g270)
            have g275 : (va_up (va_up (va_up (va_up (va_up G 6 (.inr (.inl (1, [.ref 7, .int i1_1, .int (i1_2 + 1 + 1)])))) N (.inr (.inl (7, [.int 0, .int 0, .null, .int 0, .int 0])))) N (.inr (.inl (7, [.int 1, .int ((((f138 i1_2.toNatClampNeg - 48) * 10) + (f138 (i1_2 + 1).toNatClampNeg)) - 48), .null, .int 0, .int 0])))) (N + 1) (.inl (8, (0, .inr (.inr (.inr (.inr (fun _ => none)))))))) N (.inr (.inl (7, [.int 1, .int ((((f138 i1_2.toNatClampNeg - 48) * 10) + (f138 (i1_2 + 1).toNatClampNeg)) - 48), .ref (N + 1), .int 0, .int 0])))) 6 = .inr (.inl (1, [.ref 7, .int i1_1, .int (i1_2 + 1 + 1)])) := (va_ne (ne_ob g271 g273 (by decide))).trans ((va_ne (ne_ob g271 g273 (by decide))).symm.trans g271)
            have g276 : (va_up (va_up (va_up (va_up (va_up G 6 (.inr (.inl (1, [.ref 7, .int i1_1, .int (i1_2 + 1 + 1)])))) N (.inr (.inl (7, [.int 0, .int 0, .null, .int 0, .int 0])))) N (.inr (.inl (7, [.int 1, .int ((((f138 i1_2.toNatClampNeg - 48) * 10) + (f138 (i1_2 + 1).toNatClampNeg)) - 48), .null, .int 0, .int 0])))) (N + 1) (.inl (8, (0, .inr (.inr (.inr (.inr (fun _ => none)))))))) N (.inr (.inl (7, [.int 1, .int ((((f138 i1_2.toNatClampNeg - 48) * 10) + (f138 (i1_2 + 1).toNatClampNeg)) - 48), .ref (N + 1), .int 0, .int 0])))) (N + 1) = .inl (8, (0, .inr (.inr (.inr (.inr (fun _ => none)))))) := (va_ne (ne_ao g272 g273)).trans ((va_ne (ne_ao g272 g273)).symm.trans g272)
            have g277 : (va_up (va_up (va_up (va_up (va_up G 6 (.inr (.inl (1, [.ref 7, .int i1_1, .int (i1_2 + 1 + 1)])))) N (.inr (.inl (7, [.int 0, .int 0, .null, .int 0, .int 0])))) N (.inr (.inl (7, [.int 1, .int ((((f138 i1_2.toNatClampNeg - 48) * 10) + (f138 (i1_2 + 1).toNatClampNeg)) - 48), .null, .int 0, .int 0])))) (N + 1) (.inl (8, (0, .inr (.inr (.inr (.inr (fun _ => none)))))))) N (.inr (.inl (7, [.int 1, .int ((((f138 i1_2.toNatClampNeg - 48) * 10) + (f138 (i1_2 + 1).toNatClampNeg)) - 48), .ref (N + 1), .int 0, .int 0])))) N = .inr (.inl (7, [.int 1, .int ((((f138 i1_2.toNatClampNeg - 48) * 10) + (f138 (i1_2 + 1).toNatClampNeg)) - 48), .ref (N + 1), .int 0, .int 0])) := up_eq
            refine w_mv (pc1 := 37) (st1 := [.ref N]) rfl rfl rfl ?_
            refine w_mv (pc1 := 38) (st1 := [.int 1, .ref N]) rfl rfl rfl ?_
            refine w_mv (pc1 := 47) (st1 := [.ref N]) rfl rfl rfl ?_
            refine w_mv (pc1 := 48) (st1 := [.int 0, .ref N]) rfl rfl rfl ?_
            refine cw_pf (c1 := .inr (.inl (7, [.int 1, .int ((((f138 i1_2.toNatClampNeg - 48) * 10) + (f138 (i1_2 + 1).toNatClampNeg)) - 48), .ref (N + 1), .int 0, .int 0]))) (pc1 := 51) rfl (by omega) (by omega) g277 rfl rfl rfl rfl ?_
            rw [va_uu]
            have g278 : (va_up (va_up (va_up (va_up (va_up G 6 (.inr (.inl (1, [.ref 7, .int i1_1, .int (i1_2 + 1 + 1)])))) N (.inr (.inl (7, [.int 0, .int 0, .null, .int 0, .int 0])))) N (.inr (.inl (7, [.int 1, .int ((((f138 i1_2.toNatClampNeg - 48) * 10) + (f138 (i1_2 + 1).toNatClampNeg)) - 48), .null, .int 0, .int 0])))) (N + 1) (.inl (8, (0, .inr (.inr (.inr (.inr (fun _ => none)))))))) N (.inr (.inl (7, [.int 1, .int ((((f138 i1_2.toNatClampNeg - 48) * 10) + (f138 (i1_2 + 1).toNatClampNeg)) - 48), .ref (N + 1), .int 0, .int 0])))) 7 = .inl (1, (48, .inl f138)) := (va_ne (ne_ao g274 g277)).trans ((va_ne (ne_ao g274 g277)).symm.trans g274)
            have g279 : (va_up (va_up (va_up (va_up (va_up G 6 (.inr (.inl (1, [.ref 7, .int i1_1, .int (i1_2 + 1 + 1)])))) N (.inr (.inl (7, [.int 0, .int 0, .null, .int 0, .int 0])))) N (.inr (.inl (7, [.int 1, .int ((((f138 i1_2.toNatClampNeg - 48) * 10) + (f138 (i1_2 + 1).toNatClampNeg)) - 48), .null, .int 0, .int 0])))) (N + 1) (.inl (8, (0, .inr (.inr (.inr (.inr (fun _ => none)))))))) N (.inr (.inl (7, [.int 1, .int ((((f138 i1_2.toNatClampNeg - 48) * 10) + (f138 (i1_2 + 1).toNatClampNeg)) - 48), .ref (N + 1), .int 0, .int 0])))) 6 = .inr (.inl (1, [.ref 7, .int i1_1, .int (i1_2 + 1 + 1)])) := (va_ne (ne_ob g275 g277 (by decide))).trans ((va_ne (ne_ob g275 g277 (by decide))).symm.trans g275)
            have g280 : (va_up (va_up (va_up (va_up (va_up G 6 (.inr (.inl (1, [.ref 7, .int i1_1, .int (i1_2 + 1 + 1)])))) N (.inr (.inl (7, [.int 0, .int 0, .null, .int 0, .int 0])))) N (.inr (.inl (7, [.int 1, .int ((((f138 i1_2.toNatClampNeg - 48) * 10) + (f138 (i1_2 + 1).toNatClampNeg)) - 48), .null, .int 0, .int 0])))) (N + 1) (.inl (8, (0, .inr (.inr (.inr (.inr (fun _ => none)))))))) N (.inr (.inl (7, [.int 1, .int ((((f138 i1_2.toNatClampNeg - 48) * 10) + (f138 (i1_2 + 1).toNatClampNeg)) - 48), .ref (N + 1), .int 0, .int 0])))) (N + 1) = .inl (8, (0, .inr (.inr (.inr (.inr (fun _ => none)))))) := (va_ne (ne_ao g276 g277)).trans ((va_ne (ne_ao g276 g277)).symm.trans g276)
            have g281 : (va_up (va_up (va_up (va_up (va_up G 6 (.inr (.inl (1, [.ref 7, .int i1_1, .int (i1_2 + 1 + 1)])))) N (.inr (.inl (7, [.int 0, .int 0, .null, .int 0, .int 0])))) N (.inr (.inl (7, [.int 1, .int ((((f138 i1_2.toNatClampNeg - 48) * 10) + (f138 (i1_2 + 1).toNatClampNeg)) - 48), .null, .int 0, .int 0])))) (N + 1) (.inl (8, (0, .inr (.inr (.inr (.inr (fun _ => none)))))))) N (.inr (.inl (7, [.int 1, .int ((((f138 i1_2.toNatClampNeg - 48) * 10) + (f138 (i1_2 + 1).toNatClampNeg)) - 48), .ref (N + 1), .int 0, .int 0])))) N = .inr (.inl (7, [.int 1, .int ((((f138 i1_2.toNatClampNeg - 48) * 10) + (f138 (i1_2 + 1).toNatClampNeg)) - 48), .ref (N + 1), .int 0, .int 0])) := up_eq
            refine w_vret (pc1 := 60) rfl rfl rfl ?_
            refine sx_wp.stop rfl rfl rfl ?_
            exact c_acc (hP _ _ _ _ _ hh) (by omega) (by omega)
set_option maxRecDepth 20000 in
set_option maxHeartbeats 4000000 in
theorem k_33_0 {h : Nat} {y1 : Nat} {p2 : Int32} {N : Nat} {G : Nat → sx_C} {K : Option Value ⊕ Nat → Nat → (Nat → sx_C) → Nat → Nat → Prop} (hh : cT (h + 2) sM_33 2 [(0, .ref 6), (1, .ref y1), (2, .int p2), (3, .int 1)] [] (N) G (fun r N1 G1 kc1 ks1 => K r N1 G1 (kc1) (ks1))) : cT (h + 2) sM_33 0 [(0, .ref 6), (1, .ref y1), (2, .int p2)] [] N G K := by
  intro d dc ds P hP
  show s_wp (d + h + 2) _ _ _ _ _ _ _ _
  refine w_mv (pc1 := 1) (st1 := [.int 1]) rfl rfl rfl ?_
  refine w_mv (pc1 := 2) (lv1 := [(3, .int 1), (0, .ref 6), (1, .ref y1), (2, .int p2)]) (st1 := []) rfl rfl rfl ?_
  refine w_wk (l1 := [(0, .ref 6), (1, .ref y1), (2, .int p2), (3, .int 1)]) rfl ⟨rfl, rfl, rfl, rfl, trivial⟩ ?_
  refine hh d _ _ P (fun r N1 G1 kc1 ks1 q => ?_)
  exact c_acc (hP r N1 G1 _ _ q) (by omega) (by omega)
set_option maxRecDepth 20000 in
set_option maxHeartbeats 4000000 in
theorem k_33_2 {h : Nat} {y1 : Nat} {p2 : Int32} {p3 : Int32} {N : Nat} {G : Nat → sx_C} {K : Option Value ⊕ Nat → Nat → (Nat → sx_C) → Nat → Nat → Prop} (hh : ((3 < p3.toInt → K (.inl (some (.int 0))) (N) G (0) (0)) ∧ (p3.toInt ≤ 3 → 6 < N ∧ ∃ (i2_1 : Int32) (i2_2 : Int32), G 6 = .inr (.inl (1, [.ref 7, .int i2_1, .int i2_2])) ∧ cT (h) sM_28 0 [(0, .ref 6), (1, .int p2)] [] (N) G (fun r3 N3 G3 kc3 ks3 => ∃ o3 : Option Nat, r3 = .inl (some (va_rf o3)) ∧ ((o3 = none → K (.inl (some (.int 0))) (N3) G3 (kc3) (ks3)) ∧ (∀ x4, o3 = some x4 → 5 ≤ y1 ∧ y1 < N3 ∧ ∃ (i5_0 : Int32) (i5_1 : Int32) (i5_3 : Int32) (i5_4 : Int32), G3 y1 = .inr (.inl (7, [.int i5_0, .int i5_1, .ref (y1 + 1), .int i5_3, .int i5_4])) ∧ 5 ≤ y1 + 1 ∧ y1 + 1 < N3 ∧ ∃ (n6 : Nat) (f6 : Nat → Option Nat), G3 (y1 + 1) = .inl (8, (n6, .inr (.inr (.inr (.inr f6))))) ∧ (((Int32.ofNat n6).toInt ≤ i5_3.toInt → 6 < N3 ∧ ∃ (i8_1 : Int32) (i8_2 : Int32), G3 6 = .inr (.inl (1, [.ref 7, .int i8_1, .int i8_2])) ∧ ((i8_1.toInt ≤ i8_2.toInt → ((p3.toInt = 3 → K (.inl (some (.int 0))) (N3) G3 (kc3) (ks3)) ∧ (p3.toInt ≠ 3 → ((i8_1.toInt ≤ i8_2.toInt → K (.inl (some (.int 0))) (N3) G3 (kc3) (ks3)) ∧ (i8_2.toInt < i8_1.toInt → 7 < N3 ∧ ∃ (f12 : Nat → Int32), G3 7 = .inl (1, (48, .inl f12)) ∧ 0 ≤ i8_2.toInt ∧ i8_2.toInt < (48 : Nat) ∧ (((f12 i8_2.toNatClampNeg).toInt = 44 → cT (h + 2) sM_33 2 [(0, .ref 6), (1, .ref y1), (2, .int p2), (3, .int (p3 + 1))] [] (N3) (va_up G3 6 (.inr (.inl (1, [.ref 7, .int i8_1, .int (i8_2 + 1)])))) (fun r N1 G1 kc1 ks1 => K r N1 G1 (kc3 + kc1) (ks3 + ks1))) ∧ ((f12 i8_2.toNatClampNeg).toInt ≠ 44 → K (.inl (some (.int 0))) (N3) G3 (kc3) (ks3)))))))) ∧ (i8_2.toInt < i8_1.toInt → 7 < N3 ∧ ∃ (f19 : Nat → Int32), G3 7 = .inl (1, (48, .inl f19)) ∧ 0 ≤ i8_2.toInt ∧ i8_2.toInt < (48 : Nat) ∧ (((f19 i8_2.toNatClampNeg).toInt = 41 → K (.inl (some (.int 1))) (N3) (va_up G3 6 (.inr (.inl (1, [.ref 7, .int i8_1, .int (i8_2 + 1)])))) (kc3) (ks3)) ∧ ((f19 i8_2.toNatClampNeg).toInt ≠ 41 → ((p3.toInt = 3 → K (.inl (some (.int 0))) (N3) G3 (kc3) (ks3)) ∧ (p3.toInt ≠ 3 → ((i8_1.toInt ≤ i8_2.toInt → K (.inl (some (.int 0))) (N3) G3 (kc3) (ks3)) ∧ (i8_2.toInt < i8_1.toInt → 0 ≤ i8_2.toInt ∧ i8_2.toInt < (48 : Nat) ∧ (((f19 i8_2.toNatClampNeg).toInt = 44 → cT (h + 2) sM_33 2 [(0, .ref 6), (1, .ref y1), (2, .int p2), (3, .int (p3 + 1))] [] (N3) (va_up G3 6 (.inr (.inl (1, [.ref 7, .int i8_1, .int (i8_2 + 1)])))) (fun r N1 G1 kc1 ks1 => K r N1 G1 (kc3 + kc1) (ks3 + ks1))) ∧ ((f19 i8_2.toNatClampNeg).toInt ≠ 44 → K (.inl (some (.int 0))) (N3) G3 (kc3) (ks3)))))))))))) ∧ (i5_3.toInt < (Int32.ofNat n6).toInt → 0 ≤ i5_3.toInt ∧ i5_3.toInt < (n6 : Nat) ∧ 5 ≤ x4 ∧ x4 < N3 ∧ ∃ (i35_0 : Int32) (i35_1 : Int32) (i35_3 : Int32) (i35_4 : Int32), G3 x4 = .inr (.inl (7, [.int i35_0, .int i35_1, .ref (x4 + 1), .int i35_3, .int i35_4])) ∧ 5 ≤ x4 ∧ x4 < N3 ∧ ∃ (i41_0 : Int32) (i41_1 : Int32) (i41_3 : Int32) (i41_4 : Int32), (va_up (va_up G3 (y1 + 1) (.inl (8, (n6, .inr (.inr (.inr (.inr (va_up f6 i5_3.toNatClampNeg (some x4))))))))) y1 (.inr (.inl (7, [.int i5_0, .int i5_1, .ref (y1 + 1), .int (i5_3 + 1), .int i5_4])))) x4 = .inr (.inl (7, [.int i41_0, .int i41_1, .ref (x4 + 1), .int i41_3, .int i41_4])) ∧ 6 < N3 ∧ ∃ (i44_1 : Int32) (i44_2 : Int32), (va_up (va_up G3 (y1 + 1) (.inl (8, (n6, .inr (.inr (.inr (.inr (va_up f6 i5_3.toNatClampNeg (some x4))))))))) y1 (.inr (.inl (7, [.int i5_0, .int i5_1, .ref (y1 + 1), .int (i5_3 + 1), .int (i5_4 ||| i41_4)])))) 6 = .inr (.inl (1, [.ref 7, .int i44_1, .int i44_2])) ∧ ((i44_1.toInt ≤ i44_2.toInt → ((p3.toInt = 3 → K (.inl (some (.int 0))) (N3) (va_up (va_up G3 (y1 + 1) (.inl (8, (n6, .inr (.inr (.inr (.inr (va_up f6 i5_3.toNatClampNeg (some x4))))))))) y1 (.inr (.inl (7, [.int i5_0, .int i5_1, .ref (y1 + 1), .int (i5_3 + 1), .int (i5_4 ||| i41_4)])))) (kc3) (ks3)) ∧ (p3.toInt ≠ 3 → ((i44_1.toInt ≤ i44_2.toInt → K (.inl (some (.int 0))) (N3) (va_up (va_up G3 (y1 + 1) (.inl (8, (n6, .inr (.inr (.inr (.inr (va_up f6 i5_3.toNatClampNeg (some x4))))))))) y1 (.inr (.inl (7, [.int i5_0, .int i5_1, .ref (y1 + 1), .int (i5_3 + 1), .int (i5_4 ||| i41_4)])))) (kc3) (ks3)) ∧ (i44_2.toInt < i44_1.toInt → 7 < N3 ∧ ∃ (f48 : Nat → Int32), (va_up (va_up G3 (y1 + 1) (.inl (8, (n6, .inr (.inr (.inr (.inr (va_up f6 i5_3.toNatClampNeg (some x4))))))))) y1 (.inr (.inl (7, [.int i5_0, .int i5_1, .ref (y1 + 1), .int (i5_3 + 1), .int (i5_4 ||| i41_4)])))) 7 = .inl (1, (48, .inl f48)) ∧ 0 ≤ i44_2.toInt ∧ i44_2.toInt < (48 : Nat) ∧ (((f48 i44_2.toNatClampNeg).toInt = 44 → cT (h + 2) sM_33 2 [(0, .ref 6), (1, .ref y1), (2, .int p2), (3, .int (p3 + 1))] [] (N3) (va_up (va_up (va_up G3 (y1 + 1) (.inl (8, (n6, .inr (.inr (.inr (.inr (va_up f6 i5_3.toNatClampNeg (some x4))))))))) y1 (.inr (.inl (7, [.int i5_0, .int i5_1, .ref (y1 + 1), .int (i5_3 + 1), .int (i5_4 ||| i41_4)])))) 6 (.inr (.inl (1, [.ref 7, .int i44_1, .int (i44_2 + 1)])))) (fun r N1 G1 kc1 ks1 => K r N1 G1 (kc3 + kc1) (ks3 + ks1))) ∧ ((f48 i44_2.toNatClampNeg).toInt ≠ 44 → K (.inl (some (.int 0))) (N3) (va_up (va_up G3 (y1 + 1) (.inl (8, (n6, .inr (.inr (.inr (.inr (va_up f6 i5_3.toNatClampNeg (some x4))))))))) y1 (.inr (.inl (7, [.int i5_0, .int i5_1, .ref (y1 + 1), .int (i5_3 + 1), .int (i5_4 ||| i41_4)])))) (kc3) (ks3)))))))) ∧ (i44_2.toInt < i44_1.toInt → 7 < N3 ∧ ∃ (f55 : Nat → Int32), (va_up (va_up G3 (y1 + 1) (.inl (8, (n6, .inr (.inr (.inr (.inr (va_up f6 i5_3.toNatClampNeg (some x4))))))))) y1 (.inr (.inl (7, [.int i5_0, .int i5_1, .ref (y1 + 1), .int (i5_3 + 1), .int (i5_4 ||| i41_4)])))) 7 = .inl (1, (48, .inl f55)) ∧ 0 ≤ i44_2.toInt ∧ i44_2.toInt < (48 : Nat) ∧ (((f55 i44_2.toNatClampNeg).toInt = 41 → K (.inl (some (.int 1))) (N3) (va_up (va_up (va_up G3 (y1 + 1) (.inl (8, (n6, .inr (.inr (.inr (.inr (va_up f6 i5_3.toNatClampNeg (some x4))))))))) y1 (.inr (.inl (7, [.int i5_0, .int i5_1, .ref (y1 + 1), .int (i5_3 + 1), .int (i5_4 ||| i41_4)])))) 6 (.inr (.inl (1, [.ref 7, .int i44_1, .int (i44_2 + 1)])))) (kc3) (ks3)) ∧ ((f55 i44_2.toNatClampNeg).toInt ≠ 41 → ((p3.toInt = 3 → K (.inl (some (.int 0))) (N3) (va_up (va_up G3 (y1 + 1) (.inl (8, (n6, .inr (.inr (.inr (.inr (va_up f6 i5_3.toNatClampNeg (some x4))))))))) y1 (.inr (.inl (7, [.int i5_0, .int i5_1, .ref (y1 + 1), .int (i5_3 + 1), .int (i5_4 ||| i41_4)])))) (kc3) (ks3)) ∧ (p3.toInt ≠ 3 → ((i44_1.toInt ≤ i44_2.toInt → K (.inl (some (.int 0))) (N3) (va_up (va_up G3 (y1 + 1) (.inl (8, (n6, .inr (.inr (.inr (.inr (va_up f6 i5_3.toNatClampNeg (some x4))))))))) y1 (.inr (.inl (7, [.int i5_0, .int i5_1, .ref (y1 + 1), .int (i5_3 + 1), .int (i5_4 ||| i41_4)])))) (kc3) (ks3)) ∧ (i44_2.toInt < i44_1.toInt → 0 ≤ i44_2.toInt ∧ i44_2.toInt < (48 : Nat) ∧ (((f55 i44_2.toNatClampNeg).toInt = 44 → cT (h + 2) sM_33 2 [(0, .ref 6), (1, .ref y1), (2, .int p2), (3, .int (p3 + 1))] [] (N3) (va_up (va_up (va_up G3 (y1 + 1) (.inl (8, (n6, .inr (.inr (.inr (.inr (va_up f6 i5_3.toNatClampNeg (some x4))))))))) y1 (.inr (.inl (7, [.int i5_0, .int i5_1, .ref (y1 + 1), .int (i5_3 + 1), .int (i5_4 ||| i41_4)])))) 6 (.inr (.inl (1, [.ref 7, .int i44_1, .int (i44_2 + 1)])))) (fun r N1 G1 kc1 ks1 => K r N1 G1 (kc3 + kc1) (ks3 + ks1))) ∧ ((f55 i44_2.toNatClampNeg).toInt ≠ 44 → K (.inl (some (.int 0))) (N3) (va_up (va_up G3 (y1 + 1) (.inl (8, (n6, .inr (.inr (.inr (.inr (va_up f6 i5_3.toNatClampNeg (some x4))))))))) y1 (.inr (.inl (7, [.int i5_0, .int i5_1, .ref (y1 + 1), .int (i5_3 + 1), .int (i5_4 ||| i41_4)])))) (kc3) (ks3))))))))))))))))))) : cT (h + 2) sM_33 2 [(0, .ref 6), (1, .ref y1), (2, .int p2), (3, .int p3)] [] N G K := by
  intro d dc ds P hP
  show s_wp (d + h + 2) _ _ _ _ _ _ _ _
  refine w_mv (pc1 := 3) (st1 := [.int p3]) rfl rfl rfl ?_
  refine w_mv (pc1 := 4) (st1 := [.int 3, .int p3]) rfl rfl rfl ?_
  by_cases h1 : 3 < p3.toInt
  ·
    replace hh := hh.1 h1
    refine w_igt_T (pc1 := 60) rfl rfl (show 3 < p3.toInt from h1) ?_
    refine w_mv (pc1 := 61) (st1 := [.int 0]) rfl rfl rfl ?_
    refine sx_wp.stop rfl rfl rfl ?_
    exact c_acc (hP _ _ _ _ _ hh) (by omega) (by omega)
  ·
    replace hh := hh.2 (Int.not_lt.mp h1)
    refine w_igt_F (pc1 := 7) rfl (by decide) rfl (show p3.toInt ≤ 3 from (Int.not_lt.mp h1)) ?_
    refine w_mv (pc1 := 8) (st1 := [.ref 6]) rfl rfl rfl ?_
    refine w_mv (pc1 := 9) (st1 := [.int p2, .ref 6]) rfl rfl rfl ?_
    obtain ⟨b2b, i2_1, i2_2, g2, hh⟩ := hh
    refine w_call (M' := sM_28) (vals := [.ref 6, .int p2]) (rest := []) (lv' := [(0, .ref 6), (1, .int p2)]) rfl rfl rfl rfl rfl rfl (cH_rcv (by omega) (by omega) g2) rfl rfl rfl ?_
    refine c_dep (d1 := d + 1 + h) (by omega) (hh _ _ _ _ (fun r3 N3 G3 kc3 ks3 hh => ?_))
    obtain ⟨o3, er3, hh⟩ := hh
    subst er3
    refine w_kr (pc1 := 12) rfl ?_
    refine w_mv (pc1 := 14) (lv1 := [(4, va_rf o3), (0, .ref 6), (1, .ref y1), (2, .int p2), (3, .int p3)]) (st1 := []) rfl rfl (by cases o3 <;> rfl) ?_
    refine w_mv (pc1 := 16) (lv1 := [(4, va_rf o3), (0, .ref 6), (1, .ref y1), (2, .int p2), (3, .int p3)]) (st1 := [va_rf o3]) rfl rfl (by cases o3 <;> rfl) ?_
    cases o3 with
    | none =>
      replace hh := hh.1 rfl
      refine w_mv (pc1 := 19) (st1 := []) rfl rfl rfl ?_
      refine w_mv (pc1 := 20) (st1 := [.int 0]) rfl rfl rfl ?_
      refine sx_wp.stop rfl rfl rfl ?_
      exact c_acc (hP _ _ _ _ _ hh) (by omega) (by omega)
    | some x4 =>
      replace hh := hh.2 x4 rfl
      refine w_mv (pc1 := 21) (st1 := []) rfl rfl rfl ?_
      refine w_mv (pc1 := 22) (st1 := [.ref y1]) rfl rfl rfl ?_
      refine w_mv (pc1 := 24) (st1 := [.ref x4, .ref y1]) rfl rfl rfl ?_
      obtain ⟨b5a, b5b, i5_0, i5_1, i5_3, i5_4, g5, hh⟩ := hh
      refine w_call (M' := sM_34) (vals := [.ref y1, .ref x4]) (rest := []) (lv' := [(0, .ref y1), (1, .ref x4)]) rfl rfl rfl rfl rfl rfl (cH_rcv (by omega) (by omega) g5) rfl rfl rfl ?_
      refine w_mv (pc1 := 1) (st1 := [.ref y1]) rfl rfl rfl ?_
      refine cw_gf (v := .int i5_3) (pc1 := 4) rfl (by omega) (by omega) g5 rfl rfl ?_
      refine w_mv (pc1 := 5) (st1 := [.ref y1, .int i5_3]) rfl rfl rfl ?_
      refine cw_gf (v := .ref (y1 + 1)) (pc1 := 8) rfl (by omega) (by omega) g5 rfl rfl ?_
      obtain ⟨b6a, b6b, n6, f6, g6, hh⟩ := hh
      refine cw_alen (pc1 := 9) rfl (by omega) g6 rfl ?_
      by_cases h7 : (Int32.ofNat n6).toInt ≤ i5_3.toInt
      ·
        replace hh := hh.1 h7
        refine w_ige_T (pc1 := 45) rfl rfl (show (Int32.ofNat n6).toInt ≤ i5_3.toInt from h7) ?_
        refine w_vret (pc1 := 27) rfl rfl rfl ?_
        refine w_mv (pc1 := 28) (st1 := [.ref 6]) rfl rfl rfl ?_
        refine w_mv (pc1 := 30) (st1 := [.int 41, .ref 6]) rfl rfl rfl ?_
        obtain ⟨b8b, i8_1, i8_2, g8, hh⟩ := hh
        refine w_call (M' := sM_32) (vals := [.ref 6, .int 41]) (rest := []) (lv' := [(0, .ref 6), (1, .int 41)]) rfl rfl rfl rfl rfl rfl (cH_rcv (by omega) (by omega) g8) rfl rfl rfl ?_
        refine w_mv (pc1 := 1) (st1 := [.ref 6]) rfl rfl rfl ?_
        refine cw_gf (v := .int i8_2) (pc1 := 4) rfl (by omega) (by omega) g8 rfl rfl ?_
        refine w_mv (pc1 := 5) (st1 := [.ref 6, .int i8_2]) rfl rfl rfl ?_
        refine cw_gf (v := .int i8_1) (pc1 := 8) rfl (by omega) (by omega) g8 rfl rfl ?_
        by_cases h9 : i8_1.toInt ≤ i8_2.toInt
        ·
          replace hh := hh.1 h9
          refine w_ige_T (pc1 := 24) rfl rfl (show i8_1.toInt ≤ i8_2.toInt from h9) ?_
          refine w_mv (pc1 := 25) (st1 := [.int 0]) rfl rfl rfl ?_
          refine w_iret (pc1 := 33) rfl rfl rfl rfl ?_
          refine w_mv (pc1 := 38) (st1 := []) rfl rfl rfl ?_
          refine w_mv (pc1 := 39) (st1 := [.int p3]) rfl rfl rfl ?_
          refine w_mv (pc1 := 40) (st1 := [.int 3, .int p3]) rfl rfl rfl ?_
          by_cases h10 : p3.toInt = 3
          ·
            replace hh := hh.1 h10
            refine w_ieq_T (pc1 := 52) rfl rfl (show p3.toInt = 3 from h10) ?_
            refine w_mv (pc1 := 53) (st1 := [.int 0]) rfl rfl rfl ?_
            refine sx_wp.stop rfl rfl rfl ?_
            exact c_acc (hP _ _ _ _ _ hh) (by omega) (by omega)
          ·
            replace hh := hh.2 h10
            refine w_ieq_F (pc1 := 43) rfl (by decide) rfl (show p3.toInt ≠ 3 from h10) ?_
            refine w_mv (pc1 := 44) (st1 := [.ref 6]) rfl rfl rfl ?_
            refine w_mv (pc1 := 46) (st1 := [.int 44, .ref 6]) rfl rfl rfl ?_
            refine w_call (M' := sM_32) (vals := [.ref 6, .int 44]) (rest := []) (lv' := [(0, .ref 6), (1, .int 44)]) rfl rfl rfl rfl rfl rfl (cH_rcv (by omega) (by omega) g8) rfl rfl rfl ?_
            refine w_mv (pc1 := 1) (st1 := [.ref 6]) rfl rfl rfl ?_
            refine cw_gf (v := .int i8_2) (pc1 := 4) rfl (by omega) (by omega) g8 rfl rfl ?_
            refine w_mv (pc1 := 5) (st1 := [.ref 6, .int i8_2]) rfl rfl rfl ?_
            refine cw_gf (v := .int i8_1) (pc1 := 8) rfl (by omega) (by omega) g8 rfl rfl ?_
            by_cases h11 : i8_1.toInt ≤ i8_2.toInt
            ·
              replace hh := hh.1 h11
              refine w_ige_T (pc1 := 24) rfl rfl (show i8_1.toInt ≤ i8_2.toInt from h11) ?_
              refine w_mv (pc1 := 25) (st1 := [.int 0]) rfl rfl rfl ?_
              refine w_iret (pc1 := 49) rfl rfl rfl rfl ?_
              refine w_mv (pc1 := 52) (st1 := []) rfl rfl rfl ?_
              refine w_mv (pc1 := 53) (st1 := [.int 0]) rfl rfl rfl ?_
              refine sx_wp.stop rfl rfl rfl ?_
              exact c_acc (hP _ _ _ _ _ hh) (by omega) (by omega)
            ·
              replace hh := hh.2 (Int.not_le.mp h11)
              refine w_ige_F (pc1 := 11) rfl (by decide) rfl (show i8_2.toInt < i8_1.toInt from (Int.not_le.mp h11)) ?_
              refine w_mv (pc1 := 12) (st1 := [.ref 6]) rfl rfl rfl ?_
              refine cw_gf (v := .ref 7) (pc1 := 15) rfl (by omega) (by omega) g8 rfl rfl ?_
              refine w_mv (pc1 := 16) (st1 := [.ref 6, .ref 7]) rfl rfl rfl ?_
              refine cw_gf (v := .int i8_2) (pc1 := 19) rfl (by omega) (by omega) g8 rfl rfl ?_
              obtain ⟨b12b, f12, g12, hh⟩ := hh
              obtain ⟨q13a, q13b, hh⟩ := hh
              refine cw_bld (pc1 := 20) rfl (by omega) g12 q13a q13b rfl ?_
              refine w_mv (pc1 := 21) (st1 := [.int 44, .int (f12 i8_2.toNatClampNeg)]) rfl rfl rfl ?_
              by_cases h14 : (f12 i8_2.toNatClampNeg).toInt = 44
              ·
                replace hh := hh.1 h14
                refine w_ieq_T (pc1 := 26) rfl rfl (show (f12 i8_2.toNatClampNeg).toInt = 44 from h14) ?_
                refine w_mv (pc1 := 27) (st1 := [.ref 6]) rfl rfl rfl ?_
                refine w_mv (pc1 := 28) (st1 := [.ref 6, .ref 6]) rfl rfl rfl ?_
                refine cw_gf (v := .int i8_2) (pc1 := 31) rfl (by omega) (by omega) g8 rfl rfl ?_
                refine w_mv (pc1 := 32) (st1 := [.int 1, .int i8_2, .ref 6]) rfl rfl rfl ?_
                refine w_mv (pc1 := 33) (st1 := [.int (i8_2 + 1), .ref 6]) rfl rfl rfl ?_
                refine cw_pf (c1 := .inr (.inl (1, [.ref 7, .int i8_1, .int (i8_2 + 1)]))) (pc1 := 36) rfl (by omega) (by omega) g8 rfl rfl rfl rfl ?_
                have g15 : (va_up G3 6 (.inr (.inl (1, [.ref 7, .int i8_1, .int (i8_2 + 1)])))) y1 = .inr (.inl (7, [.int i5_0, .int i5_1, .ref (y1 + 1), .int i5_3, .int i5_4])) := (va_ne (ne_ob g5 g8 (by decide))).trans g5
                have g16 : (va_up G3 6 (.inr (.inl (1, [.ref 7, .int i8_1, .int (i8_2 + 1)])))) (y1 + 1) = .inl (8, (n6, .inr (.inr (.inr (.inr f6))))) := (va_ne (ne_ao g6 g8)).trans g6
                have g17 : (va_up G3 6 (.inr (.inl (1, [.ref 7, .int i8_1, .int (i8_2 + 1)])))) 7 = .inl (1, (48, .inl f12)) := (va_ne (ne_ao g12 g8)).trans g12
                have g18 : (va_up G3 6 (.inr (.inl (1, [.ref 7, .int i8_1, .int (i8_2 + 1)])))) 6 = .inr (.inl (1, [.ref 7, .int i8_1, .int (i8_2 + 1)])) := up_eq
                refine w_mv (pc1 := 37) (st1 := [.int 1]) rfl rfl rfl ?_
                refine w_iret (pc1 := 49) rfl rfl rfl rfl ?_
                refine w_mv (pc1 := 54) (st1 := []) rfl rfl rfl ?_
                refine w_mv (pc1 := 57) (lv1 := [(3, .int (p3 + 1)), (4, .ref x4), (0, .ref 6), (1, .ref y1), (2, .int p2)]) (st1 := []) rfl rfl rfl ?_
                refine w_mv (pc1 := 2) (st1 := []) rfl rfl rfl ?_
                refine w_wk (l1 := [(0, .ref 6), (1, .ref y1), (2, .int p2), (3, .int (p3 + 1))]) rfl ⟨rfl, rfl, rfl, rfl, trivial⟩ ?_
                refine hh d _ _ P (fun r N1 G1 kc1 ks1 q => ?_)
                exact c_acc (hP r N1 G1 _ _ q) (by omega) (by omega)
              ·
                replace hh := hh.2 h14
                refine w_ieq_F (pc1 := 24) rfl (by decide) rfl (show (f12 i8_2.toNatClampNeg).toInt ≠ 44 from h14) ?_
                refine w_mv (pc1 := 25) (st1 := [.int 0]) rfl rfl rfl ?_
                refine w_iret (pc1 := 49) rfl rfl rfl rfl ?_
                refine w_mv (pc1 := 52) (st1 := []) rfl rfl rfl ?_
                refine w_mv (pc1 := 53) (st1 := [.int 0]) rfl rfl rfl ?_
                refine sx_wp.stop rfl rfl rfl ?_
                exact c_acc (hP _ _ _ _ _ hh) (by omega) (by omega)
        ·
          replace hh := hh.2 (Int.not_le.mp h9)
          refine w_ige_F (pc1 := 11) rfl (by decide) rfl (show i8_2.toInt < i8_1.toInt from (Int.not_le.mp h9)) ?_
          refine w_mv (pc1 := 12) (st1 := [.ref 6]) rfl rfl rfl ?_
          refine cw_gf (v := .ref 7) (pc1 := 15) rfl (by omega) (by omega) g8 rfl rfl ?_
          refine w_mv (pc1 := 16) (st1 := [.ref 6, .ref 7]) rfl rfl rfl ?_
          refine cw_gf (v := .int i8_2) (pc1 := 19) rfl (by omega) (by omega) g8 rfl rfl ?_
          obtain ⟨b19b, f19, g19, hh⟩ := hh
          obtain ⟨q20a, q20b, hh⟩ := hh
          refine cw_bld (pc1 := 20) rfl (by omega) g19 q20a q20b rfl ?_
          refine w_mv (pc1 := 21) (st1 := [.int 41, .int (f19 i8_2.toNatClampNeg)]) rfl rfl rfl ?_
          by_cases h21 : (f19 i8_2.toNatClampNeg).toInt = 41
          ·
            replace hh := hh.1 h21
            refine w_ieq_T (pc1 := 26) rfl rfl (show (f19 i8_2.toNatClampNeg).toInt = 41 from h21) ?_
            refine w_mv (pc1 := 27) (st1 := [.ref 6]) rfl rfl rfl ?_
            refine w_mv (pc1 := 28) (st1 := [.ref 6, .ref 6]) rfl rfl rfl ?_
            refine cw_gf (v := .int i8_2) (pc1 := 31) rfl (by omega) (by omega) g8 rfl rfl ?_
            refine w_mv (pc1 := 32) (st1 := [.int 1, .int i8_2, .ref 6]) rfl rfl rfl ?_
            refine w_mv (pc1 := 33) (st1 := [.int (i8_2 + 1), .ref 6]) rfl rfl rfl ?_
            refine cw_pf (c1 := .inr (.inl (1, [.ref 7, .int i8_1, .int (i8_2 + 1)]))) (pc1 := 36) rfl (by omega) (by omega) g8 rfl rfl rfl rfl ?_
            have g22 : (va_up G3 6 (.inr (.inl (1, [.ref 7, .int i8_1, .int (i8_2 + 1)])))) y1 = .inr (.inl (7, [.int i5_0, .int i5_1, .ref (y1 + 1), .int i5_3, .int i5_4])) := (va_ne (ne_ob g5 g8 (by decide))).trans g5
            have g23 : (va_up G3 6 (.inr (.inl (1, [.ref 7, .int i8_1, .int (i8_2 + 1)])))) (y1 + 1) = .inl (8, (n6, .inr (.inr (.inr (.inr f6))))) := (va_ne (ne_ao g6 g8)).trans g6
            have g24 : (va_up G3 6 (.inr (.inl (1, [.ref 7, .int i8_1, .int (i8_2 + 1)])))) 7 = .inl (1, (48, .inl f19)) := (va_ne (ne_ao g19 g8)).trans g19
            have g25 : (va_up G3 6 (.inr (.inl (1, [.ref 7, .int i8_1, .int (i8_2 + 1)])))) 6 = .inr (.inl (1, [.ref 7, .int i8_1, .int (i8_2 + 1)])) := up_eq
            refine w_mv (pc1 := 37) (st1 := [.int 1]) rfl rfl rfl ?_
            refine w_iret (pc1 := 33) rfl rfl rfl rfl ?_
            refine w_mv (pc1 := 36) (st1 := []) rfl rfl rfl ?_
            refine w_mv (pc1 := 37) (st1 := [.int 1]) rfl rfl rfl ?_
            refine sx_wp.stop rfl rfl rfl ?_
            exact c_acc (hP _ _ _ _ _ hh) (by omega) (by omega)
          ·
            replace hh := hh.2 h21
            refine w_ieq_F (pc1 := 24) rfl (by decide) rfl (show (f19 i8_2.toNatClampNeg).toInt ≠ 41 from h21) ?_
            refine w_mv (pc1 := 25) (st1 := [.int 0]) rfl rfl rfl ?_
            refine w_iret (pc1 := 33) rfl rfl rfl rfl ?_
            refine w_mv (pc1 := 38) (st1 := []) rfl rfl rfl ?_
            refine w_mv (pc1 := 39) (st1 := [.int p3]) rfl rfl rfl ?_
            refine w_mv (pc1 := 40) (st1 := [.int 3, .int p3]) rfl rfl rfl ?_
            by_cases h26 : p3.toInt = 3
            ·
              replace hh := hh.1 h26
              refine w_ieq_T (pc1 := 52) rfl rfl (show p3.toInt = 3 from h26) ?_
              refine w_mv (pc1 := 53) (st1 := [.int 0]) rfl rfl rfl ?_
              refine sx_wp.stop rfl rfl rfl ?_
              exact c_acc (hP _ _ _ _ _ hh) (by omega) (by omega)
            ·
              replace hh := hh.2 h26
              refine w_ieq_F (pc1 := 43) rfl (by decide) rfl (show p3.toInt ≠ 3 from h26) ?_
              refine w_mv (pc1 := 44) (st1 := [.ref 6]) rfl rfl rfl ?_
              refine w_mv (pc1 := 46) (st1 := [.int 44, .ref 6]) rfl rfl rfl ?_
              refine w_call (M' := sM_32) (vals := [.ref 6, .int 44]) (rest := []) (lv' := [(0, .ref 6), (1, .int 44)]) rfl rfl rfl rfl rfl rfl (cH_rcv (by omega) (by omega) g8) rfl rfl rfl ?_
              refine w_mv (pc1 := 1) (st1 := [.ref 6]) rfl rfl rfl ?_
              refine cw_gf (v := .int i8_2) (pc1 := 4) rfl (by omega) (by omega) g8 rfl rfl ?_
              refine w_mv (pc1 := 5) (st1 := [.ref 6, .int i8_2]) rfl rfl rfl ?_
              refine cw_gf (v := .int i8_1) (pc1 := 8) rfl (by omega) (by omega) g8 rfl rfl ?_
              by_cases h27 : i8_1.toInt ≤ i8_2.toInt
              ·
                replace hh := hh.1 h27
                refine w_ige_T (pc1 := 24) rfl rfl (show i8_1.toInt ≤ i8_2.toInt from h27) ?_
                refine w_mv (pc1 := 25) (st1 := [.int 0]) rfl rfl rfl ?_
                refine w_iret (pc1 := 49) rfl rfl rfl rfl ?_
                refine w_mv (pc1 := 52) (st1 := []) rfl rfl rfl ?_
                refine w_mv (pc1 := 53) (st1 := [.int 0]) rfl rfl rfl ?_
                refine sx_wp.stop rfl rfl rfl ?_
                exact c_acc (hP _ _ _ _ _ hh) (by omega) (by omega)
              ·
                replace hh := hh.2 (Int.not_le.mp h27)
                refine w_ige_F (pc1 := 11) rfl (by decide) rfl (show i8_2.toInt < i8_1.toInt from (Int.not_le.mp h27)) ?_
                refine w_mv (pc1 := 12) (st1 := [.ref 6]) rfl rfl rfl ?_
                refine cw_gf (v := .ref 7) (pc1 := 15) rfl (by omega) (by omega) g8 rfl rfl ?_
                refine w_mv (pc1 := 16) (st1 := [.ref 6, .ref 7]) rfl rfl rfl ?_
                refine cw_gf (v := .int i8_2) (pc1 := 19) rfl (by omega) (by omega) g8 rfl rfl ?_
                obtain ⟨q28a, q28b, hh⟩ := hh
                refine cw_bld (pc1 := 20) rfl (by omega) g19 q28a q28b rfl ?_
                refine w_mv (pc1 := 21) (st1 := [.int 44, .int (f19 i8_2.toNatClampNeg)]) rfl rfl rfl ?_
                by_cases h29 : (f19 i8_2.toNatClampNeg).toInt = 44
                ·
                  replace hh := hh.1 h29
                  refine w_ieq_T (pc1 := 26) rfl rfl (show (f19 i8_2.toNatClampNeg).toInt = 44 from h29) ?_
                  refine w_mv (pc1 := 27) (st1 := [.ref 6]) rfl rfl rfl ?_
                  refine w_mv (pc1 := 28) (st1 := [.ref 6, .ref 6]) rfl rfl rfl ?_
                  refine cw_gf (v := .int i8_2) (pc1 := 31) rfl (by omega) (by omega) g8 rfl rfl ?_
                  refine w_mv (pc1 := 32) (st1 := [.int 1, .int i8_2, .ref 6]) rfl rfl rfl ?_
                  refine w_mv (pc1 := 33) (st1 := [.int (i8_2 + 1), .ref 6]) rfl rfl rfl ?_
                  refine cw_pf (c1 := .inr (.inl (1, [.ref 7, .int i8_1, .int (i8_2 + 1)]))) (pc1 := 36) rfl (by omega) (by omega) g8 rfl rfl rfl rfl ?_
                  have g30 : (va_up G3 6 (.inr (.inl (1, [.ref 7, .int i8_1, .int (i8_2 + 1)])))) y1 = .inr (.inl (7, [.int i5_0, .int i5_1, .ref (y1 + 1), .int i5_3, .int i5_4])) := (va_ne (ne_ob g5 g8 (by decide))).trans g5
                  have g31 : (va_up G3 6 (.inr (.inl (1, [.ref 7, .int i8_1, .int (i8_2 + 1)])))) (y1 + 1) = .inl (8, (n6, .inr (.inr (.inr (.inr f6))))) := (va_ne (ne_ao g6 g8)).trans g6
                  have g32 : (va_up G3 6 (.inr (.inl (1, [.ref 7, .int i8_1, .int (i8_2 + 1)])))) 7 = .inl (1, (48, .inl f19)) := (va_ne (ne_ao g19 g8)).trans g19
                  have g33 : (va_up G3 6 (.inr (.inl (1, [.ref 7, .int i8_1, .int (i8_2 + 1)])))) 6 = .inr (.inl (1, [.ref 7, .int i8_1, .int (i8_2 + 1)])) := up_eq
                  refine w_mv (pc1 := 37) (st1 := [.int 1]) rfl rfl rfl ?_
                  refine w_iret (pc1 := 49) rfl rfl rfl rfl ?_
                  refine w_mv (pc1 := 54) (st1 := []) rfl rfl rfl ?_
                  refine w_mv (pc1 := 57) (lv1 := [(3, .int (p3 + 1)), (4, .ref x4), (0, .ref 6), (1, .ref y1), (2, .int p2)]) (st1 := []) rfl rfl rfl ?_
                  refine w_mv (pc1 := 2) (st1 := []) rfl rfl rfl ?_
                  refine w_wk (l1 := [(0, .ref 6), (1, .ref y1), (2, .int p2), (3, .int (p3 + 1))]) rfl ⟨rfl, rfl, rfl, rfl, trivial⟩ ?_
                  refine hh d _ _ P (fun r N1 G1 kc1 ks1 q => ?_)
                  exact c_acc (hP r N1 G1 _ _ q) (by omega) (by omega)
                ·
                  replace hh := hh.2 h29
                  refine w_ieq_F (pc1 := 24) rfl (by decide) rfl (show (f19 i8_2.toNatClampNeg).toInt ≠ 44 from h29) ?_
                  refine w_mv (pc1 := 25) (st1 := [.int 0]) rfl rfl rfl ?_
                  refine w_iret (pc1 := 49) rfl rfl rfl rfl ?_
                  refine w_mv (pc1 := 52) (st1 := []) rfl rfl rfl ?_
                  refine w_mv (pc1 := 53) (st1 := [.int 0]) rfl rfl rfl ?_
                  refine sx_wp.stop rfl rfl rfl ?_
                  exact c_acc (hP _ _ _ _ _ hh) (by omega) (by omega)
      ·
        replace hh := hh.2 (Int.not_le.mp h7)
        refine w_ige_F (pc1 := 12) rfl (by decide) rfl (show i5_3.toInt < (Int32.ofNat n6).toInt from (Int.not_le.mp h7)) ?_
        refine w_mv (pc1 := 13) (st1 := [.ref y1]) rfl rfl rfl ?_
        refine cw_gf (v := .ref (y1 + 1)) (pc1 := 16) rfl (by omega) (by omega) g5 rfl rfl ?_
        refine w_mv (pc1 := 17) (st1 := [.ref y1, .ref (y1 + 1)]) rfl rfl rfl ?_
        refine cw_gf (v := .int i5_3) (pc1 := 20) rfl (by omega) (by omega) g5 rfl rfl ?_
        refine w_mv (pc1 := 21) (st1 := [.ref x4, .int i5_3, .ref (y1 + 1)]) rfl rfl rfl ?_
        obtain ⟨q34a, q34b, hh⟩ := hh
        obtain ⟨b35a, b35b, i35_0, i35_1, i35_3, i35_4, g35, hh⟩ := hh
        refine cw_as (pc1 := 22) rfl (by omega) (by omega) g6 (by omega) (by omega) g35 rfl q34a q34b rfl ?_
        have g36 : (va_up G3 (y1 + 1) (.inl (8, (n6, .inr (.inr (.inr (.inr (va_up f6 i5_3.toNatClampNeg (some x4))))))))) y1 = .inr (.inl (7, [.int i5_0, .int i5_1, .ref (y1 + 1), .int i5_3, .int i5_4])) := (va_ne (ne_oa g5 g6)).trans g5
        have g37 : (va_up G3 (y1 + 1) (.inl (8, (n6, .inr (.inr (.inr (.inr (va_up f6 i5_3.toNatClampNeg (some x4))))))))) x4 = .inr (.inl (7, [.int i35_0, .int i35_1, .ref (x4 + 1), .int i35_3, .int i35_4])) := (va_ne (ne_oa g35 g6)).trans g35
        have g38 : (va_up G3 (y1 + 1) (.inl (8, (n6, .inr (.inr (.inr (.inr (va_up f6 i5_3.toNatClampNeg (some x4))))))))) (y1 + 1) = .inl (8, (n6, .inr (.inr (.inr (.inr (va_up f6 i5_3.toNatClampNeg (some x4))))))) := up_eq
        refine w_mv (pc1 := 23) (st1 := [.ref y1]) rfl rfl rfl ?_
        refine w_mv (pc1 := 24) (st1 := [.ref y1, .ref y1]) rfl rfl rfl ?_
        refine cw_gf (v := .int i5_3) (pc1 := 27) rfl (by omega) (by omega) g36 rfl rfl ?_
        refine w_mv (pc1 := 28) (st1 := [.int 1, .int i5_3, .ref y1]) rfl rfl rfl ?_
        refine w_mv (pc1 := 29) (st1 := [.int (i5_3 + 1), .ref y1]) rfl rfl rfl ?_
        refine cw_pf (c1 := .inr (.inl (7, [.int i5_0, .int i5_1, .ref (y1 + 1), .int (i5_3 + 1), .int i5_4]))) (pc1 := 32) rfl (by omega) (by omega) g36 rfl rfl rfl rfl ?_
        have g39 : (va_up (va_up G3 (y1 + 1) (.inl (8, (n6, .inr (.inr (.inr (.inr (va_up f6 i5_3.toNatClampNeg (some x4))))))))) y1 (.inr (.inl (7, [.int i5_0, .int i5_1, .ref (y1 + 1), .int (i5_3 + 1), .int i5_4])))) (y1 + 1) = .inl (8, (n6, .inr (.inr (.inr (.inr (va_up f6 i5_3.toNatClampNeg (some x4))))))) := (va_ne (ne_ao g38 g36)).trans g38
        have g40 : (va_up (va_up G3 (y1 + 1) (.inl (8, (n6, .inr (.inr (.inr (.inr (va_up f6 i5_3.toNatClampNeg (some x4))))))))) y1 (.inr (.inl (7, [.int i5_0, .int i5_1, .ref (y1 + 1), .int (i5_3 + 1), .int i5_4])))) y1 = .inr (.inl (7, [.int i5_0, .int i5_1, .ref (y1 + 1), .int (i5_3 + 1), .int i5_4])) := up_eq
        refine w_mv (pc1 := 33) (st1 := [.ref y1]) rfl rfl rfl ?_
        refine w_mv (pc1 := 34) (st1 := [.ref y1, .ref y1]) rfl rfl rfl ?_
        refine cw_gf (v := .int i5_4) (pc1 := 37) rfl (by omega) (by omega) g40 rfl rfl ?_
        refine w_mv (pc1 := 38) (st1 := [.ref x4, .int i5_4, .ref y1]) rfl rfl rfl ?_
        obtain ⟨b41a, b41b, i41_0, i41_1, i41_3, i41_4, g41, hh⟩ := hh
        refine cw_gf (v := .int i41_4) (pc1 := 41) rfl (by omega) (by omega) g41 rfl rfl ?_
        refine w_mv (pc1 := 42) (st1 := [.int (i5_4 ||| i41_4), .ref y1]) rfl rfl rfl ?_
        refine cw_pf (c1 := .inr (.inl (7, [.int i5_0, .int i5_1, .ref (y1 + 1), .int (i5_3 + 1), .int (i5_4 ||| i41_4)]))) (pc1 := 45) rfl (by omega) (by omega) g40 rfl rfl rfl rfl ?_
        rw [va_uu]
        have g42 : (va_up (va_up G3 (y1 + 1) (.inl (8, (n6, .inr (.inr (.inr (.inr (va_up f6 i5_3.toNatClampNeg (some x4))))))))) y1 (.inr (.inl (7, [.int i5_0, .int i5_1, .ref (y1 + 1), .int (i5_3 + 1), .int (i5_4 ||| i41_4)])))) (y1 + 1) = .inl (8, (n6, .inr (.inr (.inr (.inr (va_up f6 i5_3.toNatClampNeg (some x4))))))) := (va_ne (ne_ao g39 g40)).trans ((va_ne (ne_ao g39 g40)).symm.trans g39)
        have g43 : (va_up (va_up G3 (y1 + 1) (.inl (8, (n6, .inr (.inr (.inr (.inr (va_up f6 i5_3.toNatClampNeg (some x4))))))))) y1 (.inr (.inl (7, [.int i5_0, .int i5_1, .ref (y1 + 1), .int (i5_3 + 1), .int (i5_4 ||| i41_4)])))) y1 = .inr (.inl (7, [.int i5_0, .int i5_1, .ref (y1 + 1), .int (i5_3 + 1), .int (i5_4 ||| i41_4)])) := up_eq
        refine w_vret (pc1 := 27) rfl rfl rfl ?_
        refine w_mv (pc1 := 28) (st1 := [.ref 6]) rfl rfl rfl ?_
        refine w_mv (pc1 := 30) (st1 := [.int 41, .ref 6]) rfl rfl rfl ?_
        obtain ⟨b44b, i44_1, i44_2, g44, hh⟩ := hh
        refine w_call (M' := sM_32) (vals := [.ref 6, .int 41]) (rest := []) (lv' := [(0, .ref 6), (1, .int 41)]) rfl rfl rfl rfl rfl rfl (cH_rcv (by omega) (by omega) g44) rfl rfl rfl ?_
        refine w_mv (pc1 := 1) (st1 := [.ref 6]) rfl rfl rfl ?_
        refine cw_gf (v := .int i44_2) (pc1 := 4) rfl (by omega) (by omega) g44 rfl rfl ?_
        refine w_mv (pc1 := 5) (st1 := [.ref 6, .int i44_2]) rfl rfl rfl ?_
        refine cw_gf (v := .int i44_1) (pc1 := 8) rfl (by omega) (by omega) g44 rfl rfl ?_
        by_cases h45 : i44_1.toInt ≤ i44_2.toInt
        ·
          replace hh := hh.1 h45
          refine w_ige_T (pc1 := 24) rfl rfl (show i44_1.toInt ≤ i44_2.toInt from h45) ?_
          refine w_mv (pc1 := 25) (st1 := [.int 0]) rfl rfl rfl ?_
          refine w_iret (pc1 := 33) rfl rfl rfl rfl ?_
          refine w_mv (pc1 := 38) (st1 := []) rfl rfl rfl ?_
          refine w_mv (pc1 := 39) (st1 := [.int p3]) rfl rfl rfl ?_
          refine w_mv (pc1 := 40) (st1 := [.int 3, .int p3]) rfl rfl rfl ?_
          by_cases h46 : p3.toInt = 3
          ·
            replace hh := hh.1 h46
            refine w_ieq_T (pc1 := 52) rfl rfl (show p3.toInt = 3 from h46) ?_
            refine w_mv (pc1 := 53) (st1 := [.int 0]) rfl rfl rfl ?_
            refine sx_wp.stop rfl rfl rfl ?_
            exact c_acc (hP _ _ _ _ _ hh) (by omega) (by omega)
          ·
            replace hh := hh.2 h46
            refine w_ieq_F (pc1 := 43) rfl (by decide) rfl (show p3.toInt ≠ 3 from h46) ?_
            refine w_mv (pc1 := 44) (st1 := [.ref 6]) rfl rfl rfl ?_
            refine w_mv (pc1 := 46) (st1 := [.int 44, .ref 6]) rfl rfl rfl ?_
            refine w_call (M' := sM_32) (vals := [.ref 6, .int 44]) (rest := []) (lv' := [(0, .ref 6), (1, .int 44)]) rfl rfl rfl rfl rfl rfl (cH_rcv (by omega) (by omega) g44) rfl rfl rfl ?_
            refine w_mv (pc1 := 1) (st1 := [.ref 6]) rfl rfl rfl ?_
            refine cw_gf (v := .int i44_2) (pc1 := 4) rfl (by omega) (by omega) g44 rfl rfl ?_
            refine w_mv (pc1 := 5) (st1 := [.ref 6, .int i44_2]) rfl rfl rfl ?_
            refine cw_gf (v := .int i44_1) (pc1 := 8) rfl (by omega) (by omega) g44 rfl rfl ?_
            by_cases h47 : i44_1.toInt ≤ i44_2.toInt
            ·
              replace hh := hh.1 h47
              refine w_ige_T (pc1 := 24) rfl rfl (show i44_1.toInt ≤ i44_2.toInt from h47) ?_
              refine w_mv (pc1 := 25) (st1 := [.int 0]) rfl rfl rfl ?_
              refine w_iret (pc1 := 49) rfl rfl rfl rfl ?_
              refine w_mv (pc1 := 52) (st1 := []) rfl rfl rfl ?_
              refine w_mv (pc1 := 53) (st1 := [.int 0]) rfl rfl rfl ?_
              refine sx_wp.stop rfl rfl rfl ?_
              exact c_acc (hP _ _ _ _ _ hh) (by omega) (by omega)
            ·
              replace hh := hh.2 (Int.not_le.mp h47)
              refine w_ige_F (pc1 := 11) rfl (by decide) rfl (show i44_2.toInt < i44_1.toInt from (Int.not_le.mp h47)) ?_
              refine w_mv (pc1 := 12) (st1 := [.ref 6]) rfl rfl rfl ?_
              refine cw_gf (v := .ref 7) (pc1 := 15) rfl (by omega) (by omega) g44 rfl rfl ?_
              refine w_mv (pc1 := 16) (st1 := [.ref 6, .ref 7]) rfl rfl rfl ?_
              refine cw_gf (v := .int i44_2) (pc1 := 19) rfl (by omega) (by omega) g44 rfl rfl ?_
              obtain ⟨b48b, f48, g48, hh⟩ := hh
              obtain ⟨q49a, q49b, hh⟩ := hh
              refine cw_bld (pc1 := 20) rfl (by omega) g48 q49a q49b rfl ?_
              refine w_mv (pc1 := 21) (st1 := [.int 44, .int (f48 i44_2.toNatClampNeg)]) rfl rfl rfl ?_
              by_cases h50 : (f48 i44_2.toNatClampNeg).toInt = 44
              ·
                replace hh := hh.1 h50
                refine w_ieq_T (pc1 := 26) rfl rfl (show (f48 i44_2.toNatClampNeg).toInt = 44 from h50) ?_
                refine w_mv (pc1 := 27) (st1 := [.ref 6]) rfl rfl rfl ?_
                refine w_mv (pc1 := 28) (st1 := [.ref 6, .ref 6]) rfl rfl rfl ?_
                refine cw_gf (v := .int i44_2) (pc1 := 31) rfl (by omega) (by omega) g44 rfl rfl ?_
                refine w_mv (pc1 := 32) (st1 := [.int 1, .int i44_2, .ref 6]) rfl rfl rfl ?_
                refine w_mv (pc1 := 33) (st1 := [.int (i44_2 + 1), .ref 6]) rfl rfl rfl ?_
                refine cw_pf (c1 := .inr (.inl (1, [.ref 7, .int i44_1, .int (i44_2 + 1)]))) (pc1 := 36) rfl (by omega) (by omega) g44 rfl rfl rfl rfl ?_
                have g51 : (va_up (va_up (va_up G3 (y1 + 1) (.inl (8, (n6, .inr (.inr (.inr (.inr (va_up f6 i5_3.toNatClampNeg (some x4))))))))) y1 (.inr (.inl (7, [.int i5_0, .int i5_1, .ref (y1 + 1), .int (i5_3 + 1), .int (i5_4 ||| i41_4)])))) 6 (.inr (.inl (1, [.ref 7, .int i44_1, .int (i44_2 + 1)])))) (y1 + 1) = .inl (8, (n6, .inr (.inr (.inr (.inr (va_up f6 i5_3.toNatClampNeg (some x4))))))) := (va_ne (ne_ao g42 g44)).trans g42
                have g52 : (va_up (va_up (va_up G3 (y1 + 1) (.inl (8, (n6, .inr (.inr (.inr (.inr (va_up f6 i5_3.toNatClampNeg (some x4))))))))) y1 (.inr (.inl (7, [.int i5_0, .int i5_1, .ref (y1 + 1), .int (i5_3 + 1), .int (i5_4 ||| i41_4)])))) 6 (.inr (.inl (1, [.ref 7, .int i44_1, .int (i44_2 + 1)])))) y1 = .inr (.inl (7, [.int i5_0, .int i5_1, .ref (y1 + 1), .int (i5_3 + 1), .int (i5_4 ||| i41_4)])) := (va_ne (ne_ob g43 g44 (by decide))).trans g43
                have g53 : (va_up (va_up (va_up G3 (y1 + 1) (.inl (8, (n6, .inr (.inr (.inr (.inr (va_up f6 i5_3.toNatClampNeg (some x4))))))))) y1 (.inr (.inl (7, [.int i5_0, .int i5_1, .ref (y1 + 1), .int (i5_3 + 1), .int (i5_4 ||| i41_4)])))) 6 (.inr (.inl (1, [.ref 7, .int i44_1, .int (i44_2 + 1)])))) 7 = .inl (1, (48, .inl f48)) := (va_ne (ne_ao g48 g44)).trans g48
                have g54 : (va_up (va_up (va_up G3 (y1 + 1) (.inl (8, (n6, .inr (.inr (.inr (.inr (va_up f6 i5_3.toNatClampNeg (some x4))))))))) y1 (.inr (.inl (7, [.int i5_0, .int i5_1, .ref (y1 + 1), .int (i5_3 + 1), .int (i5_4 ||| i41_4)])))) 6 (.inr (.inl (1, [.ref 7, .int i44_1, .int (i44_2 + 1)])))) 6 = .inr (.inl (1, [.ref 7, .int i44_1, .int (i44_2 + 1)])) := up_eq
                refine w_mv (pc1 := 37) (st1 := [.int 1]) rfl rfl rfl ?_
                refine w_iret (pc1 := 49) rfl rfl rfl rfl ?_
                refine w_mv (pc1 := 54) (st1 := []) rfl rfl rfl ?_
                refine w_mv (pc1 := 57) (lv1 := [(3, .int (p3 + 1)), (4, .ref x4), (0, .ref 6), (1, .ref y1), (2, .int p2)]) (st1 := []) rfl rfl rfl ?_
                refine w_mv (pc1 := 2) (st1 := []) rfl rfl rfl ?_
                refine w_wk (l1 := [(0, .ref 6), (1, .ref y1), (2, .int p2), (3, .int (p3 + 1))]) rfl ⟨rfl, rfl, rfl, rfl, trivial⟩ ?_
                refine hh d _ _ P (fun r N1 G1 kc1 ks1 q => ?_)
                exact c_acc (hP r N1 G1 _ _ q) (by omega) (by omega)
              ·
                replace hh := hh.2 h50
                refine w_ieq_F (pc1 := 24) rfl (by decide) rfl (show (f48 i44_2.toNatClampNeg).toInt ≠ 44 from h50) ?_
                refine w_mv (pc1 := 25) (st1 := [.int 0]) rfl rfl rfl ?_
                refine w_iret (pc1 := 49) rfl rfl rfl rfl ?_
                refine w_mv (pc1 := 52) (st1 := []) rfl rfl rfl ?_
                refine w_mv (pc1 := 53) (st1 := [.int 0]) rfl rfl rfl ?_
                refine sx_wp.stop rfl rfl rfl ?_
                exact c_acc (hP _ _ _ _ _ hh) (by omega) (by omega)
        ·
          replace hh := hh.2 (Int.not_le.mp h45)
          refine w_ige_F (pc1 := 11) rfl (by decide) rfl (show i44_2.toInt < i44_1.toInt from (Int.not_le.mp h45)) ?_
          refine w_mv (pc1 := 12) (st1 := [.ref 6]) rfl rfl rfl ?_
          refine cw_gf (v := .ref 7) (pc1 := 15) rfl (by omega) (by omega) g44 rfl rfl ?_
          refine w_mv (pc1 := 16) (st1 := [.ref 6, .ref 7]) rfl rfl rfl ?_
          refine cw_gf (v := .int i44_2) (pc1 := 19) rfl (by omega) (by omega) g44 rfl rfl ?_
          obtain ⟨b55b, f55, g55, hh⟩ := hh
          obtain ⟨q56a, q56b, hh⟩ := hh
          refine cw_bld (pc1 := 20) rfl (by omega) g55 q56a q56b rfl ?_
          refine w_mv (pc1 := 21) (st1 := [.int 41, .int (f55 i44_2.toNatClampNeg)]) rfl rfl rfl ?_
          by_cases h57 : (f55 i44_2.toNatClampNeg).toInt = 41
          ·
            replace hh := hh.1 h57
            refine w_ieq_T (pc1 := 26) rfl rfl (show (f55 i44_2.toNatClampNeg).toInt = 41 from h57) ?_
            refine w_mv (pc1 := 27) (st1 := [.ref 6]) rfl rfl rfl ?_
            refine w_mv (pc1 := 28) (st1 := [.ref 6, .ref 6]) rfl rfl rfl ?_
            refine cw_gf (v := .int i44_2) (pc1 := 31) rfl (by omega) (by omega) g44 rfl rfl ?_
            refine w_mv (pc1 := 32) (st1 := [.int 1, .int i44_2, .ref 6]) rfl rfl rfl ?_
            refine w_mv (pc1 := 33) (st1 := [.int (i44_2 + 1), .ref 6]) rfl rfl rfl ?_
            refine cw_pf (c1 := .inr (.inl (1, [.ref 7, .int i44_1, .int (i44_2 + 1)]))) (pc1 := 36) rfl (by omega) (by omega) g44 rfl rfl rfl rfl ?_
            have g58 : (va_up (va_up (va_up G3 (y1 + 1) (.inl (8, (n6, .inr (.inr (.inr (.inr (va_up f6 i5_3.toNatClampNeg (some x4))))))))) y1 (.inr (.inl (7, [.int i5_0, .int i5_1, .ref (y1 + 1), .int (i5_3 + 1), .int (i5_4 ||| i41_4)])))) 6 (.inr (.inl (1, [.ref 7, .int i44_1, .int (i44_2 + 1)])))) (y1 + 1) = .inl (8, (n6, .inr (.inr (.inr (.inr (va_up f6 i5_3.toNatClampNeg (some x4))))))) := (va_ne (ne_ao g42 g44)).trans g42
            have g59 : (va_up (va_up (va_up G3 (y1 + 1) (.inl (8, (n6, .inr (.inr (.inr (.inr (va_up f6 i5_3.toNatClampNeg (some x4))))))))) y1 (.inr (.inl (7, [.int i5_0, .int i5_1, .ref (y1 + 1), .int (i5_3 + 1), .int (i5_4 ||| i41_4)])))) 6 (.inr (.inl (1, [.ref 7, .int i44_1, .int (i44_2 + 1)])))) y1 = .inr (.inl (7, [.int i5_0, .int i5_1, .ref (y1 + 1), .int (i5_3 + 1), .int (i5_4 ||| i41_4)])) := (va_ne (ne_ob g43 g44 (by decide))).trans g43
            have g60 : (va_up (va_up (va_up G3 (y1 + 1) (.inl (8, (n6, .inr (.inr (.inr (.inr (va_up f6 i5_3.toNatClampNeg (some x4))))))))) y1 (.inr (.inl (7, [.int i5_0, .int i5_1, .ref (y1 + 1), .int (i5_3 + 1), .int (i5_4 ||| i41_4)])))) 6 (.inr (.inl (1, [.ref 7, .int i44_1, .int (i44_2 + 1)])))) 7 = .inl (1, (48, .inl f55)) := (va_ne (ne_ao g55 g44)).trans g55
            have g61 : (va_up (va_up (va_up G3 (y1 + 1) (.inl (8, (n6, .inr (.inr (.inr (.inr (va_up f6 i5_3.toNatClampNeg (some x4))))))))) y1 (.inr (.inl (7, [.int i5_0, .int i5_1, .ref (y1 + 1), .int (i5_3 + 1), .int (i5_4 ||| i41_4)])))) 6 (.inr (.inl (1, [.ref 7, .int i44_1, .int (i44_2 + 1)])))) 6 = .inr (.inl (1, [.ref 7, .int i44_1, .int (i44_2 + 1)])) := up_eq
            refine w_mv (pc1 := 37) (st1 := [.int 1]) rfl rfl rfl ?_
            refine w_iret (pc1 := 33) rfl rfl rfl rfl ?_
            refine w_mv (pc1 := 36) (st1 := []) rfl rfl rfl ?_
            refine w_mv (pc1 := 37) (st1 := [.int 1]) rfl rfl rfl ?_
            refine sx_wp.stop rfl rfl rfl ?_
            exact c_acc (hP _ _ _ _ _ hh) (by omega) (by omega)
          ·
            replace hh := hh.2 h57
            refine w_ieq_F (pc1 := 24) rfl (by decide) rfl (show (f55 i44_2.toNatClampNeg).toInt ≠ 41 from h57) ?_
            refine w_mv (pc1 := 25) (st1 := [.int 0]) rfl rfl rfl ?_
            refine w_iret (pc1 := 33) rfl rfl rfl rfl ?_
            refine w_mv (pc1 := 38) (st1 := []) rfl rfl rfl ?_
            refine w_mv (pc1 := 39) (st1 := [.int p3]) rfl rfl rfl ?_
            refine w_mv (pc1 := 40) (st1 := [.int 3, .int p3]) rfl rfl rfl ?_
            by_cases h62 : p3.toInt = 3
            ·
              replace hh := hh.1 h62
              refine w_ieq_T (pc1 := 52) rfl rfl (show p3.toInt = 3 from h62) ?_
              refine w_mv (pc1 := 53) (st1 := [.int 0]) rfl rfl rfl ?_
              refine sx_wp.stop rfl rfl rfl ?_
              exact c_acc (hP _ _ _ _ _ hh) (by omega) (by omega)
            ·
              replace hh := hh.2 h62
              refine w_ieq_F (pc1 := 43) rfl (by decide) rfl (show p3.toInt ≠ 3 from h62) ?_
              refine w_mv (pc1 := 44) (st1 := [.ref 6]) rfl rfl rfl ?_
              refine w_mv (pc1 := 46) (st1 := [.int 44, .ref 6]) rfl rfl rfl ?_
              refine w_call (M' := sM_32) (vals := [.ref 6, .int 44]) (rest := []) (lv' := [(0, .ref 6), (1, .int 44)]) rfl rfl rfl rfl rfl rfl (cH_rcv (by omega) (by omega) g44) rfl rfl rfl ?_
              refine w_mv (pc1 := 1) (st1 := [.ref 6]) rfl rfl rfl ?_
              refine cw_gf (v := .int i44_2) (pc1 := 4) rfl (by omega) (by omega) g44 rfl rfl ?_
              refine w_mv (pc1 := 5) (st1 := [.ref 6, .int i44_2]) rfl rfl rfl ?_
              refine cw_gf (v := .int i44_1) (pc1 := 8) rfl (by omega) (by omega) g44 rfl rfl ?_
              by_cases h63 : i44_1.toInt ≤ i44_2.toInt
              ·
                replace hh := hh.1 h63
                refine w_ige_T (pc1 := 24) rfl rfl (show i44_1.toInt ≤ i44_2.toInt from h63) ?_
                refine w_mv (pc1 := 25) (st1 := [.int 0]) rfl rfl rfl ?_
                refine w_iret (pc1 := 49) rfl rfl rfl rfl ?_
                refine w_mv (pc1 := 52) (st1 := []) rfl rfl rfl ?_
                refine w_mv (pc1 := 53) (st1 := [.int 0]) rfl rfl rfl ?_
                refine sx_wp.stop rfl rfl rfl ?_
                exact c_acc (hP _ _ _ _ _ hh) (by omega) (by omega)
              ·
                replace hh := hh.2 (Int.not_le.mp h63)
                refine w_ige_F (pc1 := 11) rfl (by decide) rfl (show i44_2.toInt < i44_1.toInt from (Int.not_le.mp h63)) ?_
                refine w_mv (pc1 := 12) (st1 := [.ref 6]) rfl rfl rfl ?_
                refine cw_gf (v := .ref 7) (pc1 := 15) rfl (by omega) (by omega) g44 rfl rfl ?_
                refine w_mv (pc1 := 16) (st1 := [.ref 6, .ref 7]) rfl rfl rfl ?_
                refine cw_gf (v := .int i44_2) (pc1 := 19) rfl (by omega) (by omega) g44 rfl rfl ?_
                obtain ⟨q64a, q64b, hh⟩ := hh
                refine cw_bld (pc1 := 20) rfl (by omega) g55 q64a q64b rfl ?_
                refine w_mv (pc1 := 21) (st1 := [.int 44, .int (f55 i44_2.toNatClampNeg)]) rfl rfl rfl ?_
                by_cases h65 : (f55 i44_2.toNatClampNeg).toInt = 44
                ·
                  replace hh := hh.1 h65
                  refine w_ieq_T (pc1 := 26) rfl rfl (show (f55 i44_2.toNatClampNeg).toInt = 44 from h65) ?_
                  refine w_mv (pc1 := 27) (st1 := [.ref 6]) rfl rfl rfl ?_
                  refine w_mv (pc1 := 28) (st1 := [.ref 6, .ref 6]) rfl rfl rfl ?_
                  refine cw_gf (v := .int i44_2) (pc1 := 31) rfl (by omega) (by omega) g44 rfl rfl ?_
                  refine w_mv (pc1 := 32) (st1 := [.int 1, .int i44_2, .ref 6]) rfl rfl rfl ?_
                  refine w_mv (pc1 := 33) (st1 := [.int (i44_2 + 1), .ref 6]) rfl rfl rfl ?_
                  refine cw_pf (c1 := .inr (.inl (1, [.ref 7, .int i44_1, .int (i44_2 + 1)]))) (pc1 := 36) rfl (by omega) (by omega) g44 rfl rfl rfl rfl ?_
                  have g66 : (va_up (va_up (va_up G3 (y1 + 1) (.inl (8, (n6, .inr (.inr (.inr (.inr (va_up f6 i5_3.toNatClampNeg (some x4))))))))) y1 (.inr (.inl (7, [.int i5_0, .int i5_1, .ref (y1 + 1), .int (i5_3 + 1), .int (i5_4 ||| i41_4)])))) 6 (.inr (.inl (1, [.ref 7, .int i44_1, .int (i44_2 + 1)])))) (y1 + 1) = .inl (8, (n6, .inr (.inr (.inr (.inr (va_up f6 i5_3.toNatClampNeg (some x4))))))) := (va_ne (ne_ao g42 g44)).trans g42
                  have g67 : (va_up (va_up (va_up G3 (y1 + 1) (.inl (8, (n6, .inr (.inr (.inr (.inr (va_up f6 i5_3.toNatClampNeg (some x4))))))))) y1 (.inr (.inl (7, [.int i5_0, .int i5_1, .ref (y1 + 1), .int (i5_3 + 1), .int (i5_4 ||| i41_4)])))) 6 (.inr (.inl (1, [.ref 7, .int i44_1, .int (i44_2 + 1)])))) y1 = .inr (.inl (7, [.int i5_0, .int i5_1, .ref (y1 + 1), .int (i5_3 + 1), .int (i5_4 ||| i41_4)])) := (va_ne (ne_ob g43 g44 (by decide))).trans g43
                  have g68 : (va_up (va_up (va_up G3 (y1 + 1) (.inl (8, (n6, .inr (.inr (.inr (.inr (va_up f6 i5_3.toNatClampNeg (some x4))))))))) y1 (.inr (.inl (7, [.int i5_0, .int i5_1, .ref (y1 + 1), .int (i5_3 + 1), .int (i5_4 ||| i41_4)])))) 6 (.inr (.inl (1, [.ref 7, .int i44_1, .int (i44_2 + 1)])))) 7 = .inl (1, (48, .inl f55)) := (va_ne (ne_ao g55 g44)).trans g55
                  have g69 : (va_up (va_up (va_up G3 (y1 + 1) (.inl (8, (n6, .inr (.inr (.inr (.inr (va_up f6 i5_3.toNatClampNeg (some x4))))))))) y1 (.inr (.inl (7, [.int i5_0, .int i5_1, .ref (y1 + 1), .int (i5_3 + 1), .int (i5_4 ||| i41_4)])))) 6 (.inr (.inl (1, [.ref 7, .int i44_1, .int (i44_2 + 1)])))) 6 = .inr (.inl (1, [.ref 7, .int i44_1, .int (i44_2 + 1)])) := up_eq
                  refine w_mv (pc1 := 37) (st1 := [.int 1]) rfl rfl rfl ?_
                  refine w_iret (pc1 := 49) rfl rfl rfl rfl ?_
                  refine w_mv (pc1 := 54) (st1 := []) rfl rfl rfl ?_
                  refine w_mv (pc1 := 57) (lv1 := [(3, .int (p3 + 1)), (4, .ref x4), (0, .ref 6), (1, .ref y1), (2, .int p2)]) (st1 := []) rfl rfl rfl ?_
                  refine w_mv (pc1 := 2) (st1 := []) rfl rfl rfl ?_
                  refine w_wk (l1 := [(0, .ref 6), (1, .ref y1), (2, .int p2), (3, .int (p3 + 1))]) rfl ⟨rfl, rfl, rfl, rfl, trivial⟩ ?_
                  refine hh d _ _ P (fun r N1 G1 kc1 ks1 q => ?_)
                  exact c_acc (hP r N1 G1 _ _ q) (by omega) (by omega)
                ·
                  replace hh := hh.2 h65
                  refine w_ieq_F (pc1 := 24) rfl (by decide) rfl (show (f55 i44_2.toNatClampNeg).toInt ≠ 44 from h65) ?_
                  refine w_mv (pc1 := 25) (st1 := [.int 0]) rfl rfl rfl ?_
                  refine w_iret (pc1 := 49) rfl rfl rfl rfl ?_
                  refine w_mv (pc1 := 52) (st1 := []) rfl rfl rfl ?_
                  refine w_mv (pc1 := 53) (st1 := [.int 0]) rfl rfl rfl ?_
                  refine sx_wp.stop rfl rfl rfl ?_
                  exact c_acc (hP _ _ _ _ _ hh) (by omega) (by omega)
set_option maxRecDepth 20000 in
set_option maxHeartbeats 4000000 in
theorem k_36_0 {y1 : Nat} {p2 : Int32} {N : Nat} {G : Nat → sx_C} {K : Option Value ⊕ Nat → Nat → (Nat → sx_C) → Nat → Nat → Prop} (hh : cT (63) sM_36 2 [(0, .ref 6), (1, .ref y1), (2, .int p2), (3, .int 0)] [] (N) G (fun r N1 G1 kc1 ks1 => K r N1 G1 (kc1) (ks1))) : cT (63) sM_36 0 [(0, .ref 6), (1, .ref y1), (2, .int p2)] [] N G K := by
  intro d dc ds P hP
  refine w_mv (pc1 := 1) (st1 := [.int 0]) rfl rfl rfl ?_
  refine w_mv (pc1 := 2) (lv1 := [(3, .int 0), (0, .ref 6), (1, .ref y1), (2, .int p2)]) (st1 := []) rfl rfl rfl ?_
  refine w_wk (l1 := [(0, .ref 6), (1, .ref y1), (2, .int p2), (3, .int 0)]) rfl ⟨rfl, rfl, rfl, rfl, trivial⟩ ?_
  refine hh d _ _ P (fun r N1 G1 kc1 ks1 q => ?_)
  exact c_acc (hP r N1 G1 _ _ q) (by omega) (by omega)
set_option maxRecDepth 20000 in
set_option maxHeartbeats 4000000 in
theorem k_36_2 {y1 : Nat} {p2 : Int32} {p3 : Int32} {N : Nat} {G : Nat → sx_C} {K : Option Value ⊕ Nat → Nat → (Nat → sx_C) → Nat → Nat → Prop} (hh : ((48 ≤ p3.toInt → K (.inl (some (.int 0))) (N) G (0) (0)) ∧ (p3.toInt < 48 → ((p2.toInt = 0 → 6 < N ∧ ∃ (i3_1 : Int32) (i3_2 : Int32), G 6 = .inr (.inl (1, [.ref 7, .int i3_1, .int i3_2])) ∧ cT (62) sM_39 0 [(0, .ref 6)] [] (N) G (fun r4 N4 G4 kc4 ks4 => ∃ o4 : Option Nat, r4 = .inl (some (va_rf o4)) ∧ ((o4 = none → K (.inl (some (.int 0))) (N4) G4 (kc4) (ks4)) ∧ (∀ x5, o4 = some x5 → 5 ≤ y1 ∧ y1 < N4 ∧ ∃ (r6_0 : Nat) (i6_1 : Int32) (i6_2 : Int32), G4 y1 = .inr (.inl (13, [.ref r6_0, .int i6_1, .int i6_2])) ∧ cT (7) sM_166 0 [(0, .ref y1), (1, .ref x5)] [] (N4) G4 (fun r7 N7 G7 kc7 ks7 => ∃ v7 : Int32, r7 = .inl (some (.int v7)) ∧ 6 < N7 ∧ ∃ (i8_1 : Int32) (i8_2 : Int32), G7 6 = .inr (.inl (1, [.ref 7, .int i8_1, .int i8_2])) ∧ ((i8_1.toInt ≤ i8_2.toInt → K (.inl (some (.int 1))) (N7) G7 (kc4 + kc7) (ks4 + ks7)) ∧ (i8_2.toInt < i8_1.toInt → 7 < N7 ∧ ∃ (f10 : Nat → Int32), G7 7 = .inl (1, (48, .inl f10)) ∧ 0 ≤ i8_2.toInt ∧ i8_2.toInt < (48 : Nat) ∧ (((f10 i8_2.toNatClampNeg).toInt = 44 → cT (63) sM_36 2 [(0, .ref 6), (1, .ref y1), (2, .int p2), (3, .int (p3 + 1))] [] (N7) (va_up G7 6 (.inr (.inl (1, [.ref 7, .int i8_1, .int (i8_2 + 1)])))) (fun r N1 G1 kc1 ks1 => K r N1 G1 (kc4 + kc7 + kc1) (ks4 + ks7 + ks1))) ∧ ((f10 i8_2.toNatClampNeg).toInt ≠ 44 → K (.inl (some (.int 1))) (N7) G7 (kc4 + kc7) (ks4 + ks7)))))))))) ∧ (p2.toInt ≠ 0 → 6 < N ∧ ∃ (i15_1 : Int32) (i15_2 : Int32), G 6 = .inr (.inl (1, [.ref 7, .int i15_1, .int i15_2])) ∧ cT (61) sM_37 0 [(0, .ref 6)] [] (N) G (fun r16 N16 G16 kc16 ks16 => ∃ o16 : Option Nat, r16 = .inl (some (va_rf o16)) ∧ ((o16 = none → K (.inl (some (.int 0))) (N16) G16 (kc16) (ks16)) ∧ (∀ x17, o16 = some x17 → 5 ≤ y1 ∧ y1 < N16 ∧ ∃ (r18_0 : Nat) (i18_1 : Int32) (i18_2 : Int32), G16 y1 = .inr (.inl (13, [.ref r18_0, .int i18_1, .int i18_2])) ∧ cT (7) sM_166 0 [(0, .ref y1), (1, .ref x17)] [] (N16) G16 (fun r19 N19 G19 kc19 ks19 => ∃ v19 : Int32, r19 = .inl (some (.int v19)) ∧ 6 < N19 ∧ ∃ (i20_1 : Int32) (i20_2 : Int32), G19 6 = .inr (.inl (1, [.ref 7, .int i20_1, .int i20_2])) ∧ ((i20_1.toInt ≤ i20_2.toInt → K (.inl (some (.int 1))) (N19) G19 (kc16 + kc19) (ks16 + ks19)) ∧ (i20_2.toInt < i20_1.toInt → 7 < N19 ∧ ∃ (f22 : Nat → Int32), G19 7 = .inl (1, (48, .inl f22)) ∧ 0 ≤ i20_2.toInt ∧ i20_2.toInt < (48 : Nat) ∧ (((f22 i20_2.toNatClampNeg).toInt = 44 → cT (63) sM_36 2 [(0, .ref 6), (1, .ref y1), (2, .int p2), (3, .int (p3 + 1))] [] (N19) (va_up G19 6 (.inr (.inl (1, [.ref 7, .int i20_1, .int (i20_2 + 1)])))) (fun r N1 G1 kc1 ks1 => K r N1 G1 (kc16 + kc19 + kc1) (ks16 + ks19 + ks1))) ∧ ((f22 i20_2.toNatClampNeg).toInt ≠ 44 → K (.inl (some (.int 1))) (N19) G19 (kc16 + kc19) (ks16 + ks19)))))))))))))) : cT (63) sM_36 2 [(0, .ref 6), (1, .ref y1), (2, .int p2), (3, .int p3)] [] N G K := by
  intro d dc ds P hP
  refine w_mv (pc1 := 3) (st1 := [.int p3]) rfl rfl rfl ?_
  refine w_mv (pc1 := 5) (st1 := [.int 48, .int p3]) rfl rfl rfl ?_
  by_cases h1 : 48 ≤ p3.toInt
  ·
    replace hh := hh.1 h1
    refine w_ige_T (pc1 := 56) rfl rfl (show 48 ≤ p3.toInt from h1) ?_
    refine w_mv (pc1 := 57) (st1 := [.int 0]) rfl rfl rfl ?_
    refine sx_wp.stop rfl rfl rfl ?_
    exact c_acc (hP _ _ _ _ _ hh) (by omega) (by omega)
  ·
    replace hh := hh.2 (Int.not_le.mp h1)
    refine w_ige_F (pc1 := 8) rfl (by decide) rfl (show p3.toInt < 48 from (Int.not_le.mp h1)) ?_
    refine w_mv (pc1 := 9) (st1 := [.int p2]) rfl rfl rfl ?_
    by_cases h2 : p2.toInt = 0
    ·
      replace hh := hh.1 h2
      refine w_zeq_T (pc1 := 19) rfl rfl (show p2.toInt = 0 from h2) ?_
      refine w_mv (pc1 := 20) (st1 := [.ref 6]) rfl rfl rfl ?_
      obtain ⟨b3b, i3_1, i3_2, g3, hh⟩ := hh
      refine w_call (M' := sM_39) (vals := [.ref 6]) (rest := []) (lv' := [(0, .ref 6)]) rfl rfl rfl rfl rfl rfl (cH_rcv (by omega) (by omega) g3) rfl rfl rfl ?_
      refine hh _ _ _ _ (fun r4 N4 G4 kc4 ks4 hh => ?_)
      obtain ⟨o4, er4, hh⟩ := hh
      subst er4
      refine w_kr (pc1 := 23) rfl ?_
      refine w_mv (pc1 := 25) (lv1 := [(4, va_rf o4), (0, .ref 6), (1, .ref y1), (2, .int p2), (3, .int p3)]) (st1 := []) rfl rfl (by cases o4 <;> rfl) ?_
      refine w_mv (pc1 := 27) (lv1 := [(4, va_rf o4), (0, .ref 6), (1, .ref y1), (2, .int p2), (3, .int p3)]) (st1 := [va_rf o4]) rfl rfl (by cases o4 <;> rfl) ?_
      cases o4 with
      | none =>
        replace hh := hh.1 rfl
        refine w_mv (pc1 := 30) (st1 := []) rfl rfl rfl ?_
        refine w_mv (pc1 := 31) (st1 := [.int 0]) rfl rfl rfl ?_
        refine sx_wp.stop rfl rfl rfl ?_
        exact c_acc (hP _ _ _ _ _ hh) (by omega) (by omega)
      | some x5 =>
        replace hh := hh.2 x5 rfl
        refine w_mv (pc1 := 32) (st1 := []) rfl rfl rfl ?_
        refine w_mv (pc1 := 33) (st1 := [.ref y1]) rfl rfl rfl ?_
        refine w_mv (pc1 := 35) (st1 := [.ref x5, .ref y1]) rfl rfl rfl ?_
        obtain ⟨b6a, b6b, r6_0, i6_1, i6_2, g6, hh⟩ := hh
        refine w_call (M' := sM_166) (vals := [.ref y1, .ref x5]) (rest := []) (lv' := [(0, .ref y1), (1, .ref x5)]) rfl rfl rfl rfl rfl rfl (cH_rcv (by omega) (by omega) g6) rfl rfl rfl ?_
        refine hh _ _ _ _ (fun r7 N7 G7 kc7 ks7 hh => ?_)
        obtain ⟨v7, er7, hh⟩ := hh
        subst er7
        refine w_ki (pc1 := 38) rfl ?_
        refine w_mv (pc1 := 39) (st1 := []) rfl rfl rfl ?_
        refine w_mv (pc1 := 40) (st1 := [.ref 6]) rfl rfl rfl ?_
        refine w_mv (pc1 := 42) (st1 := [.int 44, .ref 6]) rfl rfl rfl ?_
        obtain ⟨b8b, i8_1, i8_2, g8, hh⟩ := hh
        refine w_call (M' := sM_32) (vals := [.ref 6, .int 44]) (rest := []) (lv' := [(0, .ref 6), (1, .int 44)]) rfl rfl rfl rfl rfl rfl (cH_rcv (by omega) (by omega) g8) rfl rfl rfl ?_
        refine w_mv (pc1 := 1) (st1 := [.ref 6]) rfl rfl rfl ?_
        refine cw_gf (v := .int i8_2) (pc1 := 4) rfl (by omega) (by omega) g8 rfl rfl ?_
        refine w_mv (pc1 := 5) (st1 := [.ref 6, .int i8_2]) rfl rfl rfl ?_
        refine cw_gf (v := .int i8_1) (pc1 := 8) rfl (by omega) (by omega) g8 rfl rfl ?_
        by_cases h9 : i8_1.toInt ≤ i8_2.toInt
        ·
          replace hh := hh.1 h9
          refine w_ige_T (pc1 := 24) rfl rfl (show i8_1.toInt ≤ i8_2.toInt from h9) ?_
          refine w_mv (pc1 := 25) (st1 := [.int 0]) rfl rfl rfl ?_
          refine w_iret (pc1 := 45) rfl rfl rfl rfl ?_
          refine w_mv (pc1 := 48) (st1 := []) rfl rfl rfl ?_
          refine w_mv (pc1 := 49) (st1 := [.int 1]) rfl rfl rfl ?_
          refine sx_wp.stop rfl rfl rfl ?_
          exact c_acc (hP _ _ _ _ _ hh) (by omega) (by omega)
        ·
          replace hh := hh.2 (Int.not_le.mp h9)
          refine w_ige_F (pc1 := 11) rfl (by decide) rfl (show i8_2.toInt < i8_1.toInt from (Int.not_le.mp h9)) ?_
          refine w_mv (pc1 := 12) (st1 := [.ref 6]) rfl rfl rfl ?_
          refine cw_gf (v := .ref 7) (pc1 := 15) rfl (by omega) (by omega) g8 rfl rfl ?_
          refine w_mv (pc1 := 16) (st1 := [.ref 6, .ref 7]) rfl rfl rfl ?_
          refine cw_gf (v := .int i8_2) (pc1 := 19) rfl (by omega) (by omega) g8 rfl rfl ?_
          obtain ⟨b10b, f10, g10, hh⟩ := hh
          obtain ⟨q11a, q11b, hh⟩ := hh
          refine cw_bld (pc1 := 20) rfl (by omega) g10 q11a q11b rfl ?_
          refine w_mv (pc1 := 21) (st1 := [.int 44, .int (f10 i8_2.toNatClampNeg)]) rfl rfl rfl ?_
          by_cases h12 : (f10 i8_2.toNatClampNeg).toInt = 44
          ·
            replace hh := hh.1 h12
            refine w_ieq_T (pc1 := 26) rfl rfl (show (f10 i8_2.toNatClampNeg).toInt = 44 from h12) ?_
            refine w_mv (pc1 := 27) (st1 := [.ref 6]) rfl rfl rfl ?_
            refine w_mv (pc1 := 28) (st1 := [.ref 6, .ref 6]) rfl rfl rfl ?_
            refine cw_gf (v := .int i8_2) (pc1 := 31) rfl (by omega) (by omega) g8 rfl rfl ?_
            refine w_mv (pc1 := 32) (st1 := [.int 1, .int i8_2, .ref 6]) rfl rfl rfl ?_
            refine w_mv (pc1 := 33) (st1 := [.int (i8_2 + 1), .ref 6]) rfl rfl rfl ?_
            refine cw_pf (c1 := .inr (.inl (1, [.ref 7, .int i8_1, .int (i8_2 + 1)]))) (pc1 := 36) rfl (by omega) (by omega) g8 rfl rfl rfl rfl ?_
            have g13 : (va_up G7 6 (.inr (.inl (1, [.ref 7, .int i8_1, .int (i8_2 + 1)])))) 7 = .inl (1, (48, .inl f10)) := (va_ne (ne_ao g10 g8)).trans g10
            have g14 : (va_up G7 6 (.inr (.inl (1, [.ref 7, .int i8_1, .int (i8_2 + 1)])))) 6 = .inr (.inl (1, [.ref 7, .int i8_1, .int (i8_2 + 1)])) := up_eq
            refine w_mv (pc1 := 37) (st1 := [.int 1]) rfl rfl rfl ?_
            refine w_iret (pc1 := 45) rfl rfl rfl rfl ?_
            refine w_mv (pc1 := 50) (st1 := []) rfl rfl rfl ?_
            refine w_mv (pc1 := 53) (lv1 := [(3, .int (p3 + 1)), (4, .ref x5), (0, .ref 6), (1, .ref y1), (2, .int p2)]) (st1 := []) rfl rfl rfl ?_
            refine w_mv (pc1 := 2) (st1 := []) rfl rfl rfl ?_
            refine w_wk (l1 := [(0, .ref 6), (1, .ref y1), (2, .int p2), (3, .int (p3 + 1))]) rfl ⟨rfl, rfl, rfl, rfl, trivial⟩ ?_
            refine hh d _ _ P (fun r N1 G1 kc1 ks1 q => ?_)
            exact c_acc (hP r N1 G1 _ _ q) (by omega) (by omega)
          ·
            replace hh := hh.2 h12
            refine w_ieq_F (pc1 := 24) rfl (by decide) rfl (show (f10 i8_2.toNatClampNeg).toInt ≠ 44 from h12) ?_
            refine w_mv (pc1 := 25) (st1 := [.int 0]) rfl rfl rfl ?_
            refine w_iret (pc1 := 45) rfl rfl rfl rfl ?_
            refine w_mv (pc1 := 48) (st1 := []) rfl rfl rfl ?_
            refine w_mv (pc1 := 49) (st1 := [.int 1]) rfl rfl rfl ?_
            refine sx_wp.stop rfl rfl rfl ?_
            exact c_acc (hP _ _ _ _ _ hh) (by omega) (by omega)
    ·
      replace hh := hh.2 h2
      refine w_zeq_F (pc1 := 12) rfl (by decide) rfl (show p2.toInt ≠ 0 from h2) ?_
      refine w_mv (pc1 := 13) (st1 := [.ref 6]) rfl rfl rfl ?_
      obtain ⟨b15b, i15_1, i15_2, g15, hh⟩ := hh
      refine w_call (M' := sM_37) (vals := [.ref 6]) (rest := []) (lv' := [(0, .ref 6)]) rfl rfl rfl rfl rfl rfl (cH_rcv (by omega) (by omega) g15) rfl rfl rfl ?_
      refine hh _ _ _ _ (fun r16 N16 G16 kc16 ks16 hh => ?_)
      obtain ⟨o16, er16, hh⟩ := hh
      subst er16
      refine w_kr (pc1 := 16) rfl ?_
      refine w_mv (pc1 := 23) (st1 := [va_rf o16]) rfl rfl rfl ?_
      refine w_mv (pc1 := 25) (lv1 := [(4, va_rf o16), (0, .ref 6), (1, .ref y1), (2, .int p2), (3, .int p3)]) (st1 := []) rfl rfl (by cases o16 <;> rfl) ?_
      refine w_mv (pc1 := 27) (lv1 := [(4, va_rf o16), (0, .ref 6), (1, .ref y1), (2, .int p2), (3, .int p3)]) (st1 := [va_rf o16]) rfl rfl (by cases o16 <;> rfl) ?_
      cases o16 with
      | none =>
        replace hh := hh.1 rfl
        refine w_mv (pc1 := 30) (st1 := []) rfl rfl rfl ?_
        refine w_mv (pc1 := 31) (st1 := [.int 0]) rfl rfl rfl ?_
        refine sx_wp.stop rfl rfl rfl ?_
        exact c_acc (hP _ _ _ _ _ hh) (by omega) (by omega)
      | some x17 =>
        replace hh := hh.2 x17 rfl
        refine w_mv (pc1 := 32) (st1 := []) rfl rfl rfl ?_
        refine w_mv (pc1 := 33) (st1 := [.ref y1]) rfl rfl rfl ?_
        refine w_mv (pc1 := 35) (st1 := [.ref x17, .ref y1]) rfl rfl rfl ?_
        obtain ⟨b18a, b18b, r18_0, i18_1, i18_2, g18, hh⟩ := hh
        refine w_call (M' := sM_166) (vals := [.ref y1, .ref x17]) (rest := []) (lv' := [(0, .ref y1), (1, .ref x17)]) rfl rfl rfl rfl rfl rfl (cH_rcv (by omega) (by omega) g18) rfl rfl rfl ?_
        refine hh _ _ _ _ (fun r19 N19 G19 kc19 ks19 hh => ?_)
        obtain ⟨v19, er19, hh⟩ := hh
        subst er19
        refine w_ki (pc1 := 38) rfl ?_
        refine w_mv (pc1 := 39) (st1 := []) rfl rfl rfl ?_
        refine w_mv (pc1 := 40) (st1 := [.ref 6]) rfl rfl rfl ?_
        refine w_mv (pc1 := 42) (st1 := [.int 44, .ref 6]) rfl rfl rfl ?_
        obtain ⟨b20b, i20_1, i20_2, g20, hh⟩ := hh
        refine w_call (M' := sM_32) (vals := [.ref 6, .int 44]) (rest := []) (lv' := [(0, .ref 6), (1, .int 44)]) rfl rfl rfl rfl rfl rfl (cH_rcv (by omega) (by omega) g20) rfl rfl rfl ?_
        refine w_mv (pc1 := 1) (st1 := [.ref 6]) rfl rfl rfl ?_
        refine cw_gf (v := .int i20_2) (pc1 := 4) rfl (by omega) (by omega) g20 rfl rfl ?_
        refine w_mv (pc1 := 5) (st1 := [.ref 6, .int i20_2]) rfl rfl rfl ?_
        refine cw_gf (v := .int i20_1) (pc1 := 8) rfl (by omega) (by omega) g20 rfl rfl ?_
        by_cases h21 : i20_1.toInt ≤ i20_2.toInt
        ·
          replace hh := hh.1 h21
          refine w_ige_T (pc1 := 24) rfl rfl (show i20_1.toInt ≤ i20_2.toInt from h21) ?_
          refine w_mv (pc1 := 25) (st1 := [.int 0]) rfl rfl rfl ?_
          refine w_iret (pc1 := 45) rfl rfl rfl rfl ?_
          refine w_mv (pc1 := 48) (st1 := []) rfl rfl rfl ?_
          refine w_mv (pc1 := 49) (st1 := [.int 1]) rfl rfl rfl ?_
          refine sx_wp.stop rfl rfl rfl ?_
          exact c_acc (hP _ _ _ _ _ hh) (by omega) (by omega)
        ·
          replace hh := hh.2 (Int.not_le.mp h21)
          refine w_ige_F (pc1 := 11) rfl (by decide) rfl (show i20_2.toInt < i20_1.toInt from (Int.not_le.mp h21)) ?_
          refine w_mv (pc1 := 12) (st1 := [.ref 6]) rfl rfl rfl ?_
          refine cw_gf (v := .ref 7) (pc1 := 15) rfl (by omega) (by omega) g20 rfl rfl ?_
          refine w_mv (pc1 := 16) (st1 := [.ref 6, .ref 7]) rfl rfl rfl ?_
          refine cw_gf (v := .int i20_2) (pc1 := 19) rfl (by omega) (by omega) g20 rfl rfl ?_
          obtain ⟨b22b, f22, g22, hh⟩ := hh
          obtain ⟨q23a, q23b, hh⟩ := hh
          refine cw_bld (pc1 := 20) rfl (by omega) g22 q23a q23b rfl ?_
          refine w_mv (pc1 := 21) (st1 := [.int 44, .int (f22 i20_2.toNatClampNeg)]) rfl rfl rfl ?_
          by_cases h24 : (f22 i20_2.toNatClampNeg).toInt = 44
          ·
            replace hh := hh.1 h24
            refine w_ieq_T (pc1 := 26) rfl rfl (show (f22 i20_2.toNatClampNeg).toInt = 44 from h24) ?_
            refine w_mv (pc1 := 27) (st1 := [.ref 6]) rfl rfl rfl ?_
            refine w_mv (pc1 := 28) (st1 := [.ref 6, .ref 6]) rfl rfl rfl ?_
            refine cw_gf (v := .int i20_2) (pc1 := 31) rfl (by omega) (by omega) g20 rfl rfl ?_
            refine w_mv (pc1 := 32) (st1 := [.int 1, .int i20_2, .ref 6]) rfl rfl rfl ?_
            refine w_mv (pc1 := 33) (st1 := [.int (i20_2 + 1), .ref 6]) rfl rfl rfl ?_
            refine cw_pf (c1 := .inr (.inl (1, [.ref 7, .int i20_1, .int (i20_2 + 1)]))) (pc1 := 36) rfl (by omega) (by omega) g20 rfl rfl rfl rfl ?_
            have g25 : (va_up G19 6 (.inr (.inl (1, [.ref 7, .int i20_1, .int (i20_2 + 1)])))) 7 = .inl (1, (48, .inl f22)) := (va_ne (ne_ao g22 g20)).trans g22
            have g26 : (va_up G19 6 (.inr (.inl (1, [.ref 7, .int i20_1, .int (i20_2 + 1)])))) 6 = .inr (.inl (1, [.ref 7, .int i20_1, .int (i20_2 + 1)])) := up_eq
            refine w_mv (pc1 := 37) (st1 := [.int 1]) rfl rfl rfl ?_
            refine w_iret (pc1 := 45) rfl rfl rfl rfl ?_
            refine w_mv (pc1 := 50) (st1 := []) rfl rfl rfl ?_
            refine w_mv (pc1 := 53) (lv1 := [(3, .int (p3 + 1)), (4, .ref x17), (0, .ref 6), (1, .ref y1), (2, .int p2)]) (st1 := []) rfl rfl rfl ?_
            refine w_mv (pc1 := 2) (st1 := []) rfl rfl rfl ?_
            refine w_wk (l1 := [(0, .ref 6), (1, .ref y1), (2, .int p2), (3, .int (p3 + 1))]) rfl ⟨rfl, rfl, rfl, rfl, trivial⟩ ?_
            refine hh d _ _ P (fun r N1 G1 kc1 ks1 q => ?_)
            exact c_acc (hP r N1 G1 _ _ q) (by omega) (by omega)
          ·
            replace hh := hh.2 h24
            refine w_ieq_F (pc1 := 24) rfl (by decide) rfl (show (f22 i20_2.toNatClampNeg).toInt ≠ 44 from h24) ?_
            refine w_mv (pc1 := 25) (st1 := [.int 0]) rfl rfl rfl ?_
            refine w_iret (pc1 := 45) rfl rfl rfl rfl ?_
            refine w_mv (pc1 := 48) (st1 := []) rfl rfl rfl ?_
            refine w_mv (pc1 := 49) (st1 := [.int 1]) rfl rfl rfl ?_
            refine sx_wp.stop rfl rfl rfl ?_
            exact c_acc (hP _ _ _ _ _ hh) (by omega) (by omega)
set_option maxRecDepth 20000 in
set_option maxHeartbeats 4000000 in
theorem k_37_0  {N : Nat} {G : Nat → sx_C} {K : Option Value ⊕ Nat → Nat → (Nat → sx_C) → Nat → Nat → Prop} (hh : 6 < N ∧ ∃ (i1_1 : Int32) (i1_2 : Int32), G 6 = .inr (.inl (1, [.ref 7, .int i1_1, .int i1_2])) ∧ cT (60) sM_28 0 [(0, .ref 6), (1, .int 1)] [] (N) G (fun r2 N2 G2 kc2 ks2 => ∃ o2 : Option Nat, r2 = .inl (some (va_rf o2)) ∧ ((o2 = none → K (.inl (some (.null))) (N2) G2 (kc2) (ks2)) ∧ (∀ x3, o2 = some x3 → 6 < N2 ∧ ∃ (i4_1 : Int32) (i4_2 : Int32), G2 6 = .inr (.inl (1, [.ref 7, .int i4_1, .int i4_2])) ∧ ((i4_1.toInt ≤ i4_2.toInt → K (.inl (some (.null))) (N2) G2 (kc2) (ks2)) ∧ (i4_2.toInt < i4_1.toInt → 7 < N2 ∧ ∃ (f6 : Nat → Int32), G2 7 = .inl (1, (48, .inl f6)) ∧ 0 ≤ i4_2.toInt ∧ i4_2.toInt < (48 : Nat) ∧ (((f6 i4_2.toNatClampNeg).toInt = 60 → cT (60) sM_28 0 [(0, .ref 6), (1, .int 1)] [] (N2) (va_up G2 6 (.inr (.inl (1, [.ref 7, .int i4_1, .int (i4_2 + 1)])))) (fun r11 N11 G11 kc11 ks11 => ∃ o11 : Option Nat, r11 = .inl (some (va_rf o11)) ∧ ((o11 = none → K (.inl (some (.null))) (N11) G11 (kc2 + kc11) (ks2 + ks11)) ∧ (∀ x12, o11 = some x12 → 5 ≤ N11 ∧ K (.inl (some (.ref N11))) (N11 + 1) (va_up (va_up G11 N11 (.inr (.inl (9, [.int 0, .int 0, .null, .null, .null])))) N11 (.inr (.inl (9, [.int (f6 i4_2.toNatClampNeg), .int (-1), .ref x3, .ref x12, .null])))) (kc2 + kc11 + 1) (ks2 + ks11 + 5))))) ∧ ((f6 i4_2.toNatClampNeg).toInt ≠ 60 → (((f6 i4_2.toNatClampNeg).toInt = 61 → cT (60) sM_28 0 [(0, .ref 6), (1, .int 1)] [] (N2) (va_up G2 6 (.inr (.inl (1, [.ref 7, .int i4_1, .int (i4_2 + 1)])))) (fun r23 N23 G23 kc23 ks23 => ∃ o23 : Option Nat, r23 = .inl (some (va_rf o23)) ∧ ((o23 = none → K (.inl (some (.null))) (N23) G23 (kc2 + kc23) (ks2 + ks23)) ∧ (∀ x24, o23 = some x24 → 5 ≤ N23 ∧ K (.inl (some (.ref N23))) (N23 + 1) (va_up (va_up G23 N23 (.inr (.inl (9, [.int 0, .int 0, .null, .null, .null])))) N23 (.inr (.inl (9, [.int (f6 i4_2.toNatClampNeg), .int (-1), .ref x3, .ref x24, .null])))) (kc2 + kc23 + 1) (ks2 + ks23 + 5))))) ∧ ((f6 i4_2.toNatClampNeg).toInt ≠ 61 → (((f6 i4_2.toNatClampNeg).toInt = 126 → cT (60) sM_28 0 [(0, .ref 6), (1, .int 1)] [] (N2) (va_up G2 6 (.inr (.inl (1, [.ref 7, .int i4_1, .int (i4_2 + 1)])))) (fun r35 N35 G35 kc35 ks35 => ∃ o35 : Option Nat, r35 = .inl (some (va_rf o35)) ∧ ((o35 = none → K (.inl (some (.null))) (N35) G35 (kc2 + kc35) (ks2 + ks35)) ∧ (∀ x36, o35 = some x36 → 5 ≤ N35 ∧ K (.inl (some (.ref N35))) (N35 + 1) (va_up (va_up G35 N35 (.inr (.inl (9, [.int 0, .int 0, .null, .null, .null])))) N35 (.inr (.inl (9, [.int (f6 i4_2.toNatClampNeg), .int (-1), .ref x3, .ref x36, .null])))) (kc2 + kc35 + 1) (ks2 + ks35 + 5))))) ∧ ((f6 i4_2.toNatClampNeg).toInt ≠ 126 → K (.inl (some (.null))) (N2) G2 (kc2) (ks2))))))))))))) : cT (61) sM_37 0 [(0, .ref 6)] [] N G K := by
  intro d dc ds P hP
  refine w_mv (pc1 := 1) (st1 := [.ref 6]) rfl rfl rfl ?_
  refine w_mv (pc1 := 2) (st1 := [.int 1, .ref 6]) rfl rfl rfl ?_
  obtain ⟨b1b, i1_1, i1_2, g1, hh⟩ := hh
  refine w_call (M' := sM_28) (vals := [.ref 6, .int 1]) (rest := []) (lv' := [(0, .ref 6), (1, .int 1)]) rfl rfl rfl rfl rfl rfl (cH_rcv (by omega) (by omega) g1) rfl rfl rfl ?_
  refine hh _ _ _ _ (fun r2 N2 G2 kc2 ks2 hh => ?_)
  obtain ⟨o2, er2, hh⟩ := hh
  subst er2
  refine w_kr (pc1 := 5) rfl ?_
  refine w_mv (pc1 := 6) (lv1 := [(1, va_rf o2), (0, .ref 6)]) (st1 := []) rfl rfl (by cases o2 <;> rfl) ?_
  refine w_mv (pc1 := 7) (lv1 := [(1, va_rf o2), (0, .ref 6)]) (st1 := [va_rf o2]) rfl rfl (by cases o2 <;> rfl) ?_
  cases o2 with
  | none =>
    replace hh := hh.1 rfl
    refine w_mv (pc1 := 10) (st1 := []) rfl rfl rfl ?_
    refine w_mv (pc1 := 11) (st1 := [.null]) rfl rfl rfl ?_
    refine sx_wp.stop rfl rfl rfl ?_
    exact c_acc (hP _ _ _ _ _ hh) (by omega) (by omega)
  | some x3 =>
    replace hh := hh.2 x3 rfl
    refine w_mv (pc1 := 12) (st1 := []) rfl rfl rfl ?_
    refine w_mv (pc1 := 13) (st1 := [.ref 6]) rfl rfl rfl ?_
    obtain ⟨b4b, i4_1, i4_2, g4, hh⟩ := hh
    refine w_call (M' := sM_26) (vals := [.ref 6]) (rest := []) (lv' := [(0, .ref 6)]) rfl rfl rfl rfl rfl rfl (cH_rcv (by omega) (by omega) g4) rfl rfl rfl ?_
    refine w_mv (pc1 := 1) (st1 := [.ref 6]) rfl rfl rfl ?_
    refine cw_gf (v := .int i4_2) (pc1 := 4) rfl (by omega) (by omega) g4 rfl rfl ?_
    refine w_mv (pc1 := 5) (st1 := [.ref 6, .int i4_2]) rfl rfl rfl ?_
    refine cw_gf (v := .int i4_1) (pc1 := 8) rfl (by omega) (by omega) g4 rfl rfl ?_
    by_cases h5 : i4_1.toInt ≤ i4_2.toInt
    ·
      replace hh := hh.1 h5
      refine w_ige_T (pc1 := 23) rfl rfl (show i4_1.toInt ≤ i4_2.toInt from h5) ?_
      refine w_mv (pc1 := 24) (st1 := [.int 0]) rfl rfl rfl ?_
      refine w_iret (pc1 := 16) rfl rfl rfl rfl ?_
      refine w_mv (pc1 := 17) (lv1 := [(2, .int 0), (1, .ref x3), (0, .ref 6)]) (st1 := []) rfl rfl rfl ?_
      refine w_mv (pc1 := 18) (st1 := [.int 0]) rfl rfl rfl ?_
      refine w_mv (pc1 := 20) (st1 := [.int 60, .int 0]) rfl rfl rfl ?_
      refine w_mv (pc1 := 23) (st1 := []) rfl rfl rfl ?_
      refine w_mv (pc1 := 24) (st1 := [.int 0]) rfl rfl rfl ?_
      refine w_mv (pc1 := 26) (st1 := [.int 61, .int 0]) rfl rfl rfl ?_
      refine w_mv (pc1 := 29) (st1 := []) rfl rfl rfl ?_
      refine w_mv (pc1 := 30) (st1 := [.int 0]) rfl rfl rfl ?_
      refine w_mv (pc1 := 32) (st1 := [.int 126, .int 0]) rfl rfl rfl ?_
      refine w_mv (pc1 := 35) (st1 := []) rfl rfl rfl ?_
      refine w_mv (pc1 := 36) (st1 := [.null]) rfl rfl rfl ?_
      refine sx_wp.stop rfl rfl rfl ?_
      exact c_acc (hP _ _ _ _ _ hh) (by omega) (by omega)
    ·
      replace hh := hh.2 (Int.not_le.mp h5)
      refine w_ige_F (pc1 := 11) rfl (by decide) rfl (show i4_2.toInt < i4_1.toInt from (Int.not_le.mp h5)) ?_
      refine w_mv (pc1 := 12) (st1 := [.ref 6]) rfl rfl rfl ?_
      refine cw_gf (v := .ref 7) (pc1 := 15) rfl (by omega) (by omega) g4 rfl rfl ?_
      refine w_mv (pc1 := 16) (st1 := [.ref 6, .ref 7]) rfl rfl rfl ?_
      refine cw_gf (v := .int i4_2) (pc1 := 19) rfl (by omega) (by omega) g4 rfl rfl ?_
      obtain ⟨b6b, f6, g6, hh⟩ := hh
      obtain ⟨q7a, q7b, hh⟩ := hh
      refine cw_bld (pc1 := 20) rfl (by omega) g6 q7a q7b rfl ?_
      refine w_mv (pc1 := 24) (st1 := [.int (f6 i4_2.toNatClampNeg)]) rfl rfl rfl ?_
      refine w_iret (pc1 := 16) rfl rfl rfl rfl ?_
      refine w_mv (pc1 := 17) (lv1 := [(2, .int (f6 i4_2.toNatClampNeg)), (1, .ref x3), (0, .ref 6)]) (st1 := []) rfl rfl rfl ?_
      refine w_mv (pc1 := 18) (st1 := [.int (f6 i4_2.toNatClampNeg)]) rfl rfl rfl ?_
      refine w_mv (pc1 := 20) (st1 := [.int 60, .int (f6 i4_2.toNatClampNeg)]) rfl rfl rfl ?_
      by_cases h8 : (f6 i4_2.toNatClampNeg).toInt = 60
      ·
        replace hh := hh.1 h8
        refine w_ieq_T (pc1 := 37) rfl rfl (show (f6 i4_2.toNatClampNeg).toInt = 60 from h8) ?_
        refine w_mv (pc1 := 38) (st1 := [.ref 6]) rfl rfl rfl ?_
        refine w_mv (pc1 := 39) (st1 := [.ref 6, .ref 6]) rfl rfl rfl ?_
        refine cw_gf (v := .int i4_2) (pc1 := 42) rfl (by omega) (by omega) g4 rfl rfl ?_
        refine w_mv (pc1 := 43) (st1 := [.int 1, .int i4_2, .ref 6]) rfl rfl rfl ?_
        refine w_mv (pc1 := 44) (st1 := [.int (i4_2 + 1), .ref 6]) rfl rfl rfl ?_
        refine cw_pf (c1 := .inr (.inl (1, [.ref 7, .int i4_1, .int (i4_2 + 1)]))) (pc1 := 47) rfl (by omega) (by omega) g4 rfl rfl rfl rfl ?_
        have g9 : (va_up G2 6 (.inr (.inl (1, [.ref 7, .int i4_1, .int (i4_2 + 1)])))) 7 = .inl (1, (48, .inl f6)) := (va_ne (ne_ao g6 g4)).trans g6
        have g10 : (va_up G2 6 (.inr (.inl (1, [.ref 7, .int i4_1, .int (i4_2 + 1)])))) 6 = .inr (.inl (1, [.ref 7, .int i4_1, .int (i4_2 + 1)])) := up_eq
        refine w_mv (pc1 := 48) (st1 := [.ref 6]) rfl rfl rfl ?_
        refine w_mv (pc1 := 49) (st1 := [.int 1, .ref 6]) rfl rfl rfl ?_
        refine w_call (M' := sM_28) (vals := [.ref 6, .int 1]) (rest := []) (lv' := [(0, .ref 6), (1, .int 1)]) rfl rfl rfl rfl rfl rfl (cH_rcv (by omega) (by omega) g10) rfl rfl rfl ?_
        refine hh _ _ _ _ (fun r11 N11 G11 kc11 ks11 hh => ?_)
        obtain ⟨o11, er11, hh⟩ := hh
        subst er11
        refine w_kr (pc1 := 52) rfl ?_
        refine w_mv (pc1 := 53) (lv1 := [(3, va_rf o11), (2, .int (f6 i4_2.toNatClampNeg)), (1, .ref x3), (0, .ref 6)]) (st1 := []) rfl rfl (by cases o11 <;> rfl) ?_
        refine w_mv (pc1 := 54) (lv1 := [(3, va_rf o11), (2, .int (f6 i4_2.toNatClampNeg)), (1, .ref x3), (0, .ref 6)]) (st1 := [va_rf o11]) rfl rfl (by cases o11 <;> rfl) ?_
        cases o11 with
        | none =>
          replace hh := hh.1 rfl
          refine w_mv (pc1 := 57) (st1 := []) rfl rfl rfl ?_
          refine w_mv (pc1 := 58) (st1 := [.null]) rfl rfl rfl ?_
          refine w_mv (pc1 := 73) (st1 := [.null]) rfl rfl rfl ?_
          refine sx_wp.stop rfl rfl rfl ?_
          exact c_acc (hP _ _ _ _ _ hh) (by omega) (by omega)
        | some x12 =>
          replace hh := hh.2 x12 rfl
          refine w_mv (pc1 := 61) (st1 := []) rfl rfl rfl ?_
          obtain ⟨q13a, hh⟩ := hh
          refine cw_new (k := 5) (c1 := .inr (.inl (9, [.int 0, .int 0, .null, .null, .null]))) (pc1 := 64) rfl rfl rfl rfl ?_
          have g14 : (va_up G11 N11 (.inr (.inl (9, [.int 0, .int 0, .null, .null, .null])))) N11 = .inr (.inl (9, [.int 0, .int 0, .null, .null, .null])) := up_eq
          refine w_mv (pc1 := 65) (st1 := [.ref N11, .ref N11]) rfl rfl rfl ?_
          refine w_mv (pc1 := 66) (st1 := [.int (f6 i4_2.toNatClampNeg), .ref N11, .ref N11]) rfl rfl rfl ?_
          refine w_mv (pc1 := 67) (st1 := [.int (-1), .int (f6 i4_2.toNatClampNeg), .ref N11, .ref N11]) rfl rfl rfl ?_
          refine w_mv (pc1 := 68) (st1 := [.ref x3, .int (-1), .int (f6 i4_2.toNatClampNeg), .ref N11, .ref N11]) rfl rfl rfl ?_
          refine w_mv (pc1 := 69) (st1 := [.ref x12, .ref x3, .int (-1), .int (f6 i4_2.toNatClampNeg), .ref N11, .ref N11]) rfl rfl rfl ?_
          refine w_mv (pc1 := 70) (st1 := [.null, .ref x12, .ref x3, .int (-1), .int (f6 i4_2.toNatClampNeg), .ref N11, .ref N11]) rfl rfl rfl ?_
          refine w_call (M' := sM_38) (vals := [.ref N11, .int (f6 i4_2.toNatClampNeg), .int (-1), .ref x3, .ref x12, .null]) (rest := [.ref N11]) (lv' := [(0, .ref N11), (1, .int (f6 i4_2.toNatClampNeg)), (2, .int (-1)), (3, .ref x3), (4, .ref x12), (5, .null)]) rfl rfl rfl rfl rfl rfl rfl rfl rfl rfl ?_
          refine w_mv (pc1 := 1) (st1 := [.ref N11]) rfl rfl rfl ?_
          refine w_obj (pc1 := 4) (st1 := []) rfl rfl rfl ⟨by omega, Nat.le_of_ble_eq_true rfl⟩ rfl ?_
          refine w_mv (pc1 := 5) (st1 := [.ref N11]) rfl rfl rfl ?_
          refine w_mv (pc1 := 6) (st1 := [.int (f6 i4_2.toNatClampNeg), .ref N11]) rfl rfl rfl ?_
          refine cw_pf (c1 := .inr (.inl (9, [.int (f6 i4_2.toNatClampNeg), .int 0, .null, .null, .null]))) (pc1 := 9) rfl (by omega) (by omega) g14 rfl rfl rfl rfl ?_
          have g15 : (va_up (va_up G11 N11 (.inr (.inl (9, [.int 0, .int 0, .null, .null, .null])))) N11 (.inr (.inl (9, [.int (f6 i4_2.toNatClampNeg), .int 0, .null, .null, .null])))) N11 = .inr (.inl (9, [.int (f6 i4_2.toNatClampNeg), .int 0, .null, .null, .null])) := up_eq
          refine w_mv (pc1 := 10) (st1 := [.ref N11]) rfl rfl rfl ?_
          refine w_mv (pc1 := 11) (st1 := [.int (-1), .ref N11]) rfl rfl rfl ?_
          refine cw_pf (c1 := .inr (.inl (9, [.int (f6 i4_2.toNatClampNeg), .int (-1), .null, .null, .null]))) (pc1 := 14) rfl (by omega) (by omega) g15 rfl rfl rfl rfl ?_
          rw [va_uu]
          have g16 : (va_up (va_up G11 N11 (.inr (.inl (9, [.int 0, .int 0, .null, .null, .null])))) N11 (.inr (.inl (9, [.int (f6 i4_2.toNatClampNeg), .int (-1), .null, .null, .null])))) N11 = .inr (.inl (9, [.int (f6 i4_2.toNatClampNeg), .int (-1), .null, .null, .null])) := up_eq
          refine w_mv (pc1 := 15) (st1 := [.ref N11]) rfl rfl rfl ?_
          refine w_mv (pc1 := 16) (st1 := [.ref x3, .ref N11]) rfl rfl rfl ?_
          refine cw_pf (c1 := .inr (.inl (9, [.int (f6 i4_2.toNatClampNeg), .int (-1), .ref x3, .null, .null]))) (pc1 := 19) rfl (by omega) (by omega) g16 rfl rfl rfl rfl ?_
          rw [va_uu]
          have g17 : (va_up (va_up G11 N11 (.inr (.inl (9, [.int 0, .int 0, .null, .null, .null])))) N11 (.inr (.inl (9, [.int (f6 i4_2.toNatClampNeg), .int (-1), .ref x3, .null, .null])))) N11 = .inr (.inl (9, [.int (f6 i4_2.toNatClampNeg), .int (-1), .ref x3, .null, .null])) := up_eq
          refine w_mv (pc1 := 20) (st1 := [.ref N11]) rfl rfl rfl ?_
          refine w_mv (pc1 := 22) (st1 := [.ref x12, .ref N11]) rfl rfl rfl ?_
          refine cw_pf (c1 := .inr (.inl (9, [.int (f6 i4_2.toNatClampNeg), .int (-1), .ref x3, .ref x12, .null]))) (pc1 := 25) rfl (by omega) (by omega) g17 rfl rfl rfl rfl ?_
          rw [va_uu]
          have g18 : (va_up (va_up G11 N11 (.inr (.inl (9, [.int 0, .int 0, .null, .null, .null])))) N11 (.inr (.inl (9, [.int (f6 i4_2.toNatClampNeg), .int (-1), .ref x3, .ref x12, .null])))) N11 = .inr (.inl (9, [.int (f6 i4_2.toNatClampNeg), .int (-1), .ref x3, .ref x12, .null])) := up_eq
          refine w_mv (pc1 := 26) (st1 := [.ref N11]) rfl rfl rfl ?_
          refine w_mv (pc1 := 28) (st1 := [.null, .ref N11]) rfl rfl rfl ?_
          refine cw_pf (c1 := .inr (.inl (9, [.int (f6 i4_2.toNatClampNeg), .int (-1), .ref x3, .ref x12, .null]))) (pc1 := 31) rfl (by omega) (by omega) g18 rfl rfl rfl rfl ?_
          rw [va_uu]
          have g19 : (va_up (va_up G11 N11 (.inr (.inl (9, [.int 0, .int 0, .null, .null, .null])))) N11 (.inr (.inl (9, [.int (f6 i4_2.toNatClampNeg), .int (-1), .ref x3, .ref x12, .null])))) N11 = .inr (.inl (9, [.int (f6 i4_2.toNatClampNeg), .int (-1), .ref x3, .ref x12, .null])) := up_eq
          refine w_vret (pc1 := 73) rfl rfl rfl ?_
          refine sx_wp.stop rfl rfl rfl ?_
          exact c_acc (hP _ _ _ _ _ hh) (by omega) (by omega)
      ·
        replace hh := hh.2 h8
        refine w_ieq_F (pc1 := 23) rfl (by decide) rfl (show (f6 i4_2.toNatClampNeg).toInt ≠ 60 from h8) ?_
        refine w_mv (pc1 := 24) (st1 := [.int (f6 i4_2.toNatClampNeg)]) rfl rfl rfl ?_
        refine w_mv (pc1 := 26) (st1 := [.int 61, .int (f6 i4_2.toNatClampNeg)]) rfl rfl rfl ?_
        by_cases h20 : (f6 i4_2.toNatClampNeg).toInt = 61
        ·
          replace hh := hh.1 h20
          refine w_ieq_T (pc1 := 37) rfl rfl (show (f6 i4_2.toNatClampNeg).toInt = 61 from h20) ?_
          refine w_mv (pc1 := 38) (st1 := [.ref 6]) rfl rfl rfl ?_
          refine w_mv (pc1 := 39) (st1 := [.ref 6, .ref 6]) rfl rfl rfl ?_
          refine cw_gf (v := .int i4_2) (pc1 := 42) rfl (by omega) (by omega) g4 rfl rfl ?_
          refine w_mv (pc1 := 43) (st1 := [.int 1, .int i4_2, .ref 6]) rfl rfl rfl ?_
          refine w_mv (pc1 := 44) (st1 := [.int (i4_2 + 1), .ref 6]) rfl rfl rfl ?_
          refine cw_pf (c1 := .inr (.inl (1, [.ref 7, .int i4_1, .int (i4_2 + 1)]))) (pc1 := 47) rfl (by omega) (by omega) g4 rfl rfl rfl rfl ?_
          have g21 : (va_up G2 6 (.inr (.inl (1, [.ref 7, .int i4_1, .int (i4_2 + 1)])))) 7 = .inl (1, (48, .inl f6)) := (va_ne (ne_ao g6 g4)).trans g6
          have g22 : (va_up G2 6 (.inr (.inl (1, [.ref 7, .int i4_1, .int (i4_2 + 1)])))) 6 = .inr (.inl (1, [.ref 7, .int i4_1, .int (i4_2 + 1)])) := up_eq
          refine w_mv (pc1 := 48) (st1 := [.ref 6]) rfl rfl rfl ?_
          refine w_mv (pc1 := 49) (st1 := [.int 1, .ref 6]) rfl rfl rfl ?_
          refine w_call (M' := sM_28) (vals := [.ref 6, .int 1]) (rest := []) (lv' := [(0, .ref 6), (1, .int 1)]) rfl rfl rfl rfl rfl rfl (cH_rcv (by omega) (by omega) g22) rfl rfl rfl ?_
          refine hh _ _ _ _ (fun r23 N23 G23 kc23 ks23 hh => ?_)
          obtain ⟨o23, er23, hh⟩ := hh
          subst er23
          refine w_kr (pc1 := 52) rfl ?_
          refine w_mv (pc1 := 53) (lv1 := [(3, va_rf o23), (2, .int (f6 i4_2.toNatClampNeg)), (1, .ref x3), (0, .ref 6)]) (st1 := []) rfl rfl (by cases o23 <;> rfl) ?_
          refine w_mv (pc1 := 54) (lv1 := [(3, va_rf o23), (2, .int (f6 i4_2.toNatClampNeg)), (1, .ref x3), (0, .ref 6)]) (st1 := [va_rf o23]) rfl rfl (by cases o23 <;> rfl) ?_
          cases o23 with
          | none =>
            replace hh := hh.1 rfl
            refine w_mv (pc1 := 57) (st1 := []) rfl rfl rfl ?_
            refine w_mv (pc1 := 58) (st1 := [.null]) rfl rfl rfl ?_
            refine w_mv (pc1 := 73) (st1 := [.null]) rfl rfl rfl ?_
            refine sx_wp.stop rfl rfl rfl ?_
            exact c_acc (hP _ _ _ _ _ hh) (by omega) (by omega)
          | some x24 =>
            replace hh := hh.2 x24 rfl
            refine w_mv (pc1 := 61) (st1 := []) rfl rfl rfl ?_
            obtain ⟨q25a, hh⟩ := hh
            refine cw_new (k := 5) (c1 := .inr (.inl (9, [.int 0, .int 0, .null, .null, .null]))) (pc1 := 64) rfl rfl rfl rfl ?_
            have g26 : (va_up G23 N23 (.inr (.inl (9, [.int 0, .int 0, .null, .null, .null])))) N23 = .inr (.inl (9, [.int 0, .int 0, .null, .null, .null])) := up_eq
            refine w_mv (pc1 := 65) (st1 := [.ref N23, .ref N23]) rfl rfl rfl ?_
            refine w_mv (pc1 := 66) (st1 := [.int (f6 i4_2.toNatClampNeg), .ref N23, .ref N23]) rfl rfl rfl ?_
            refine w_mv (pc1 := 67) (st1 := [.int (-1), .int (f6 i4_2.toNatClampNeg), .ref N23, .ref N23]) rfl rfl rfl ?_
            refine w_mv (pc1 := 68) (st1 := [.ref x3, .int (-1), .int (f6 i4_2.toNatClampNeg), .ref N23, .ref N23]) rfl rfl rfl ?_
            refine w_mv (pc1 := 69) (st1 := [.ref x24, .ref x3, .int (-1), .int (f6 i4_2.toNatClampNeg), .ref N23, .ref N23]) rfl rfl rfl ?_
            refine w_mv (pc1 := 70) (st1 := [.null, .ref x24, .ref x3, .int (-1), .int (f6 i4_2.toNatClampNeg), .ref N23, .ref N23]) rfl rfl rfl ?_
            refine w_call (M' := sM_38) (vals := [.ref N23, .int (f6 i4_2.toNatClampNeg), .int (-1), .ref x3, .ref x24, .null]) (rest := [.ref N23]) (lv' := [(0, .ref N23), (1, .int (f6 i4_2.toNatClampNeg)), (2, .int (-1)), (3, .ref x3), (4, .ref x24), (5, .null)]) rfl rfl rfl rfl rfl rfl rfl rfl rfl rfl ?_
            refine w_mv (pc1 := 1) (st1 := [.ref N23]) rfl rfl rfl ?_
            refine w_obj (pc1 := 4) (st1 := []) rfl rfl rfl ⟨by omega, Nat.le_of_ble_eq_true rfl⟩ rfl ?_
            refine w_mv (pc1 := 5) (st1 := [.ref N23]) rfl rfl rfl ?_
            refine w_mv (pc1 := 6) (st1 := [.int (f6 i4_2.toNatClampNeg), .ref N23]) rfl rfl rfl ?_
            refine cw_pf (c1 := .inr (.inl (9, [.int (f6 i4_2.toNatClampNeg), .int 0, .null, .null, .null]))) (pc1 := 9) rfl (by omega) (by omega) g26 rfl rfl rfl rfl ?_
            have g27 : (va_up (va_up G23 N23 (.inr (.inl (9, [.int 0, .int 0, .null, .null, .null])))) N23 (.inr (.inl (9, [.int (f6 i4_2.toNatClampNeg), .int 0, .null, .null, .null])))) N23 = .inr (.inl (9, [.int (f6 i4_2.toNatClampNeg), .int 0, .null, .null, .null])) := up_eq
            refine w_mv (pc1 := 10) (st1 := [.ref N23]) rfl rfl rfl ?_
            refine w_mv (pc1 := 11) (st1 := [.int (-1), .ref N23]) rfl rfl rfl ?_
            refine cw_pf (c1 := .inr (.inl (9, [.int (f6 i4_2.toNatClampNeg), .int (-1), .null, .null, .null]))) (pc1 := 14) rfl (by omega) (by omega) g27 rfl rfl rfl rfl ?_
            rw [va_uu]
            have g28 : (va_up (va_up G23 N23 (.inr (.inl (9, [.int 0, .int 0, .null, .null, .null])))) N23 (.inr (.inl (9, [.int (f6 i4_2.toNatClampNeg), .int (-1), .null, .null, .null])))) N23 = .inr (.inl (9, [.int (f6 i4_2.toNatClampNeg), .int (-1), .null, .null, .null])) := up_eq
            refine w_mv (pc1 := 15) (st1 := [.ref N23]) rfl rfl rfl ?_
            refine w_mv (pc1 := 16) (st1 := [.ref x3, .ref N23]) rfl rfl rfl ?_
            refine cw_pf (c1 := .inr (.inl (9, [.int (f6 i4_2.toNatClampNeg), .int (-1), .ref x3, .null, .null]))) (pc1 := 19) rfl (by omega) (by omega) g28 rfl rfl rfl rfl ?_
            rw [va_uu]
            have g29 : (va_up (va_up G23 N23 (.inr (.inl (9, [.int 0, .int 0, .null, .null, .null])))) N23 (.inr (.inl (9, [.int (f6 i4_2.toNatClampNeg), .int (-1), .ref x3, .null, .null])))) N23 = .inr (.inl (9, [.int (f6 i4_2.toNatClampNeg), .int (-1), .ref x3, .null, .null])) := up_eq
            refine w_mv (pc1 := 20) (st1 := [.ref N23]) rfl rfl rfl ?_
            refine w_mv (pc1 := 22) (st1 := [.ref x24, .ref N23]) rfl rfl rfl ?_
            refine cw_pf (c1 := .inr (.inl (9, [.int (f6 i4_2.toNatClampNeg), .int (-1), .ref x3, .ref x24, .null]))) (pc1 := 25) rfl (by omega) (by omega) g29 rfl rfl rfl rfl ?_
            rw [va_uu]
            have g30 : (va_up (va_up G23 N23 (.inr (.inl (9, [.int 0, .int 0, .null, .null, .null])))) N23 (.inr (.inl (9, [.int (f6 i4_2.toNatClampNeg), .int (-1), .ref x3, .ref x24, .null])))) N23 = .inr (.inl (9, [.int (f6 i4_2.toNatClampNeg), .int (-1), .ref x3, .ref x24, .null])) := up_eq
            refine w_mv (pc1 := 26) (st1 := [.ref N23]) rfl rfl rfl ?_
            refine w_mv (pc1 := 28) (st1 := [.null, .ref N23]) rfl rfl rfl ?_
            refine cw_pf (c1 := .inr (.inl (9, [.int (f6 i4_2.toNatClampNeg), .int (-1), .ref x3, .ref x24, .null]))) (pc1 := 31) rfl (by omega) (by omega) g30 rfl rfl rfl rfl ?_
            rw [va_uu]
            have g31 : (va_up (va_up G23 N23 (.inr (.inl (9, [.int 0, .int 0, .null, .null, .null])))) N23 (.inr (.inl (9, [.int (f6 i4_2.toNatClampNeg), .int (-1), .ref x3, .ref x24, .null])))) N23 = .inr (.inl (9, [.int (f6 i4_2.toNatClampNeg), .int (-1), .ref x3, .ref x24, .null])) := up_eq
            refine w_vret (pc1 := 73) rfl rfl rfl ?_
            refine sx_wp.stop rfl rfl rfl ?_
            exact c_acc (hP _ _ _ _ _ hh) (by omega) (by omega)
        ·
          replace hh := hh.2 h20
          refine w_ieq_F (pc1 := 29) rfl (by decide) rfl (show (f6 i4_2.toNatClampNeg).toInt ≠ 61 from h20) ?_
          refine w_mv (pc1 := 30) (st1 := [.int (f6 i4_2.toNatClampNeg)]) rfl rfl rfl ?_
          refine w_mv (pc1 := 32) (st1 := [.int 126, .int (f6 i4_2.toNatClampNeg)]) rfl rfl rfl ?_
          by_cases h32 : (f6 i4_2.toNatClampNeg).toInt = 126
          ·
            replace hh := hh.1 h32
            refine w_ieq_T (pc1 := 37) rfl rfl (show (f6 i4_2.toNatClampNeg).toInt = 126 from h32) ?_
            refine w_mv (pc1 := 38) (st1 := [.ref 6]) rfl rfl rfl ?_
            refine w_mv (pc1 := 39) (st1 := [.ref 6, .ref 6]) rfl rfl rfl ?_
            refine cw_gf (v := .int i4_2) (pc1 := 42) rfl (by omega) (by omega) g4 rfl rfl ?_
            refine w_mv (pc1 := 43) (st1 := [.int 1, .int i4_2, .ref 6]) rfl rfl rfl ?_
            refine w_mv (pc1 := 44) (st1 := [.int (i4_2 + 1), .ref 6]) rfl rfl rfl ?_
            refine cw_pf (c1 := .inr (.inl (1, [.ref 7, .int i4_1, .int (i4_2 + 1)]))) (pc1 := 47) rfl (by omega) (by omega) g4 rfl rfl rfl rfl ?_
            have g33 : (va_up G2 6 (.inr (.inl (1, [.ref 7, .int i4_1, .int (i4_2 + 1)])))) 7 = .inl (1, (48, .inl f6)) := (va_ne (ne_ao g6 g4)).trans g6
            have g34 : (va_up G2 6 (.inr (.inl (1, [.ref 7, .int i4_1, .int (i4_2 + 1)])))) 6 = .inr (.inl (1, [.ref 7, .int i4_1, .int (i4_2 + 1)])) := up_eq
            refine w_mv (pc1 := 48) (st1 := [.ref 6]) rfl rfl rfl ?_
            refine w_mv (pc1 := 49) (st1 := [.int 1, .ref 6]) rfl rfl rfl ?_
            refine w_call (M' := sM_28) (vals := [.ref 6, .int 1]) (rest := []) (lv' := [(0, .ref 6), (1, .int 1)]) rfl rfl rfl rfl rfl rfl (cH_rcv (by omega) (by omega) g34) rfl rfl rfl ?_
            refine hh _ _ _ _ (fun r35 N35 G35 kc35 ks35 hh => ?_)
            obtain ⟨o35, er35, hh⟩ := hh
            subst er35
            refine w_kr (pc1 := 52) rfl ?_
            refine w_mv (pc1 := 53) (lv1 := [(3, va_rf o35), (2, .int (f6 i4_2.toNatClampNeg)), (1, .ref x3), (0, .ref 6)]) (st1 := []) rfl rfl (by cases o35 <;> rfl) ?_
            refine w_mv (pc1 := 54) (lv1 := [(3, va_rf o35), (2, .int (f6 i4_2.toNatClampNeg)), (1, .ref x3), (0, .ref 6)]) (st1 := [va_rf o35]) rfl rfl (by cases o35 <;> rfl) ?_
            cases o35 with
            | none =>
              replace hh := hh.1 rfl
              refine w_mv (pc1 := 57) (st1 := []) rfl rfl rfl ?_
              refine w_mv (pc1 := 58) (st1 := [.null]) rfl rfl rfl ?_
              refine w_mv (pc1 := 73) (st1 := [.null]) rfl rfl rfl ?_
              refine sx_wp.stop rfl rfl rfl ?_
              exact c_acc (hP _ _ _ _ _ hh) (by omega) (by omega)
            | some x36 =>
              replace hh := hh.2 x36 rfl
              refine w_mv (pc1 := 61) (st1 := []) rfl rfl rfl ?_
              obtain ⟨q37a, hh⟩ := hh
              refine cw_new (k := 5) (c1 := .inr (.inl (9, [.int 0, .int 0, .null, .null, .null]))) (pc1 := 64) rfl rfl rfl rfl ?_
              have g38 : (va_up G35 N35 (.inr (.inl (9, [.int 0, .int 0, .null, .null, .null])))) N35 = .inr (.inl (9, [.int 0, .int 0, .null, .null, .null])) := up_eq
              refine w_mv (pc1 := 65) (st1 := [.ref N35, .ref N35]) rfl rfl rfl ?_
              refine w_mv (pc1 := 66) (st1 := [.int (f6 i4_2.toNatClampNeg), .ref N35, .ref N35]) rfl rfl rfl ?_
              refine w_mv (pc1 := 67) (st1 := [.int (-1), .int (f6 i4_2.toNatClampNeg), .ref N35, .ref N35]) rfl rfl rfl ?_
              refine w_mv (pc1 := 68) (st1 := [.ref x3, .int (-1), .int (f6 i4_2.toNatClampNeg), .ref N35, .ref N35]) rfl rfl rfl ?_
              refine w_mv (pc1 := 69) (st1 := [.ref x36, .ref x3, .int (-1), .int (f6 i4_2.toNatClampNeg), .ref N35, .ref N35]) rfl rfl rfl ?_
              refine w_mv (pc1 := 70) (st1 := [.null, .ref x36, .ref x3, .int (-1), .int (f6 i4_2.toNatClampNeg), .ref N35, .ref N35]) rfl rfl rfl ?_
              refine w_call (M' := sM_38) (vals := [.ref N35, .int (f6 i4_2.toNatClampNeg), .int (-1), .ref x3, .ref x36, .null]) (rest := [.ref N35]) (lv' := [(0, .ref N35), (1, .int (f6 i4_2.toNatClampNeg)), (2, .int (-1)), (3, .ref x3), (4, .ref x36), (5, .null)]) rfl rfl rfl rfl rfl rfl rfl rfl rfl rfl ?_
              refine w_mv (pc1 := 1) (st1 := [.ref N35]) rfl rfl rfl ?_
              refine w_obj (pc1 := 4) (st1 := []) rfl rfl rfl ⟨by omega, Nat.le_of_ble_eq_true rfl⟩ rfl ?_
              refine w_mv (pc1 := 5) (st1 := [.ref N35]) rfl rfl rfl ?_
              refine w_mv (pc1 := 6) (st1 := [.int (f6 i4_2.toNatClampNeg), .ref N35]) rfl rfl rfl ?_
              refine cw_pf (c1 := .inr (.inl (9, [.int (f6 i4_2.toNatClampNeg), .int 0, .null, .null, .null]))) (pc1 := 9) rfl (by omega) (by omega) g38 rfl rfl rfl rfl ?_
              have g39 : (va_up (va_up G35 N35 (.inr (.inl (9, [.int 0, .int 0, .null, .null, .null])))) N35 (.inr (.inl (9, [.int (f6 i4_2.toNatClampNeg), .int 0, .null, .null, .null])))) N35 = .inr (.inl (9, [.int (f6 i4_2.toNatClampNeg), .int 0, .null, .null, .null])) := up_eq
              refine w_mv (pc1 := 10) (st1 := [.ref N35]) rfl rfl rfl ?_
              refine w_mv (pc1 := 11) (st1 := [.int (-1), .ref N35]) rfl rfl rfl ?_
              refine cw_pf (c1 := .inr (.inl (9, [.int (f6 i4_2.toNatClampNeg), .int (-1), .null, .null, .null]))) (pc1 := 14) rfl (by omega) (by omega) g39 rfl rfl rfl rfl ?_
              rw [va_uu]
              have g40 : (va_up (va_up G35 N35 (.inr (.inl (9, [.int 0, .int 0, .null, .null, .null])))) N35 (.inr (.inl (9, [.int (f6 i4_2.toNatClampNeg), .int (-1), .null, .null, .null])))) N35 = .inr (.inl (9, [.int (f6 i4_2.toNatClampNeg), .int (-1), .null, .null, .null])) := up_eq
              refine w_mv (pc1 := 15) (st1 := [.ref N35]) rfl rfl rfl ?_
              refine w_mv (pc1 := 16) (st1 := [.ref x3, .ref N35]) rfl rfl rfl ?_
              refine cw_pf (c1 := .inr (.inl (9, [.int (f6 i4_2.toNatClampNeg), .int (-1), .ref x3, .null, .null]))) (pc1 := 19) rfl (by omega) (by omega) g40 rfl rfl rfl rfl ?_
              rw [va_uu]
              have g41 : (va_up (va_up G35 N35 (.inr (.inl (9, [.int 0, .int 0, .null, .null, .null])))) N35 (.inr (.inl (9, [.int (f6 i4_2.toNatClampNeg), .int (-1), .ref x3, .null, .null])))) N35 = .inr (.inl (9, [.int (f6 i4_2.toNatClampNeg), .int (-1), .ref x3, .null, .null])) := up_eq
              refine w_mv (pc1 := 20) (st1 := [.ref N35]) rfl rfl rfl ?_
              refine w_mv (pc1 := 22) (st1 := [.ref x36, .ref N35]) rfl rfl rfl ?_
              refine cw_pf (c1 := .inr (.inl (9, [.int (f6 i4_2.toNatClampNeg), .int (-1), .ref x3, .ref x36, .null]))) (pc1 := 25) rfl (by omega) (by omega) g41 rfl rfl rfl rfl ?_
              rw [va_uu]
              have g42 : (va_up (va_up G35 N35 (.inr (.inl (9, [.int 0, .int 0, .null, .null, .null])))) N35 (.inr (.inl (9, [.int (f6 i4_2.toNatClampNeg), .int (-1), .ref x3, .ref x36, .null])))) N35 = .inr (.inl (9, [.int (f6 i4_2.toNatClampNeg), .int (-1), .ref x3, .ref x36, .null])) := up_eq
              refine w_mv (pc1 := 26) (st1 := [.ref N35]) rfl rfl rfl ?_
              refine w_mv (pc1 := 28) (st1 := [.null, .ref N35]) rfl rfl rfl ?_
              refine cw_pf (c1 := .inr (.inl (9, [.int (f6 i4_2.toNatClampNeg), .int (-1), .ref x3, .ref x36, .null]))) (pc1 := 31) rfl (by omega) (by omega) g42 rfl rfl rfl rfl ?_
              rw [va_uu]
              have g43 : (va_up (va_up G35 N35 (.inr (.inl (9, [.int 0, .int 0, .null, .null, .null])))) N35 (.inr (.inl (9, [.int (f6 i4_2.toNatClampNeg), .int (-1), .ref x3, .ref x36, .null])))) N35 = .inr (.inl (9, [.int (f6 i4_2.toNatClampNeg), .int (-1), .ref x3, .ref x36, .null])) := up_eq
              refine w_vret (pc1 := 73) rfl rfl rfl ?_
              refine sx_wp.stop rfl rfl rfl ?_
              exact c_acc (hP _ _ _ _ _ hh) (by omega) (by omega)
          ·
            replace hh := hh.2 h32
            refine w_ieq_F (pc1 := 35) rfl (by decide) rfl (show (f6 i4_2.toNatClampNeg).toInt ≠ 126 from h32) ?_
            refine w_mv (pc1 := 36) (st1 := [.null]) rfl rfl rfl ?_
            refine sx_wp.stop rfl rfl rfl ?_
            exact c_acc (hP _ _ _ _ _ hh) (by omega) (by omega)
set_option maxRecDepth 20000 in
set_option maxHeartbeats 4000000 in
theorem k_39_0  {N : Nat} {G : Nat → sx_C} {K : Option Value ⊕ Nat → Nat → (Nat → sx_C) → Nat → Nat → Prop} (hh : 6 < N ∧ ∃ (i1_1 : Int32) (i1_2 : Int32), G 6 = .inr (.inl (1, [.ref 7, .int i1_1, .int i1_2])) ∧ cT (60) sM_28 0 [(0, .ref 6), (1, .int 1)] [] (N) G (fun r2 N2 G2 kc2 ks2 => ∃ o2 : Option Nat, r2 = .inl (some (va_rf o2)) ∧ ((o2 = none → K (.inl (some (.null))) (N2) G2 (kc2) (ks2)) ∧ (∀ x3, o2 = some x3 → 6 < N2 ∧ ∃ (i4_1 : Int32) (i4_2 : Int32), G2 6 = .inr (.inl (1, [.ref 7, .int i4_1, .int i4_2])) ∧ ((i4_1.toInt ≤ i4_2.toInt → 5 ≤ x3 ∧ x3 < N2 ∧ ∃ (i6_0 : Int32) (i6_1 : Int32) (i6_3 : Int32) (i6_4 : Int32), G2 x3 = .inr (.inl (7, [.int i6_0, .int i6_1, .ref (x3 + 1), .int i6_3, .int i6_4])) ∧ ((i6_0.toInt ≠ 0 → ((i6_0.toInt ≠ 2 → K (.inl (some (.null))) (N2) G2 (kc2) (ks2)) ∧ (i6_0.toInt = 2 → cT (2) sM_41 0 [(0, .ref 6), (1, .ref x3)] [] (N2) G2 (fun r17 N17 G17 kc17 ks17 => ∃ o17 : Option Nat, r17 = .inl (some (va_rf o17)) ∧ K (.inl (some (va_rf o17))) (N17) G17 (kc2 + kc17) (ks2 + ks17))))) ∧ (i6_0.toInt = 0 → ((i4_1.toInt ≤ i4_2.toInt → K (.inl (some (.null))) (N2) G2 (kc2) (ks2)) ∧ (i4_2.toInt < i4_1.toInt → 7 < N2 ∧ ∃ (f9 : Nat → Int32), G2 7 = .inl (1, (48, .inl f9)) ∧ 0 ≤ i4_2.toInt ∧ i4_2.toInt < (48 : Nat) ∧ (((f9 i4_2.toNatClampNeg).toInt = 35 → cT (61) sM_40 0 [(0, .ref 6), (1, .ref x3)] [] (N2) (va_up G2 6 (.inr (.inl (1, [.ref 7, .int i4_1, .int (i4_2 + 1)])))) (fun r15 N15 G15 kc15 ks15 => ∃ o15 : Option Nat, r15 = .inl (some (va_rf o15)) ∧ K (.inl (some (va_rf o15))) (N15) G15 (kc2 + kc15) (ks2 + ks15))) ∧ ((f9 i4_2.toNatClampNeg).toInt ≠ 35 → K (.inl (some (.null))) (N2) G2 (kc2) (ks2)))))))) ∧ (i4_2.toInt < i4_1.toInt → 7 < N2 ∧ ∃ (f18 : Nat → Int32), G2 7 = .inl (1, (48, .inl f18)) ∧ 0 ≤ i4_2.toInt ∧ i4_2.toInt < (48 : Nat) ∧ (((f18 i4_2.toNatClampNeg).toInt = 61 → cT (60) sM_28 0 [(0, .ref 6), (1, .int 1)] [] (N2) (va_up G2 6 (.inr (.inl (1, [.ref 7, .int i4_1, .int (i4_2 + 1)])))) (fun r23 N23 G23 kc23 ks23 => ∃ o23 : Option Nat, r23 = .inl (some (va_rf o23)) ∧ ((o23 = none → K (.inl (some (.null))) (N23) G23 (kc2 + kc23) (ks2 + ks23)) ∧ (∀ x24, o23 = some x24 → 5 ≤ N23 ∧ K (.inl (some (.ref N23))) (N23 + 1) (va_up (va_up G23 N23 (.inr (.inl (9, [.int 0, .int 0, .null, .null, .null])))) N23 (.inr (.inl (9, [.int 61, .int (-1), .ref x3, .ref x24, .null])))) (kc2 + kc23 + 1) (ks2 + ks23 + 5))))) ∧ ((f18 i4_2.toNatClampNeg).toInt ≠ 61 → 5 ≤ x3 ∧ x3 < N2 ∧ ∃ (i32_0 : Int32) (i32_1 : Int32) (i32_3 : Int32) (i32_4 : Int32), G2 x3 = .inr (.inl (7, [.int i32_0, .int i32_1, .ref (x3 + 1), .int i32_3, .int i32_4])) ∧ ((i32_0.toInt ≠ 0 → ((i32_0.toInt ≠ 2 → K (.inl (some (.null))) (N2) G2 (kc2) (ks2)) ∧ (i32_0.toInt = 2 → cT (2) sM_41 0 [(0, .ref 6), (1, .ref x3)] [] (N2) G2 (fun r42 N42 G42 kc42 ks42 => ∃ o42 : Option Nat, r42 = .inl (some (va_rf o42)) ∧ K (.inl (some (va_rf o42))) (N42) G42 (kc2 + kc42) (ks2 + ks42))))) ∧ (i32_0.toInt = 0 → ((i4_1.toInt ≤ i4_2.toInt → K (.inl (some (.null))) (N2) G2 (kc2) (ks2)) ∧ (i4_2.toInt < i4_1.toInt → 0 ≤ i4_2.toInt ∧ i4_2.toInt < (48 : Nat) ∧ (((f18 i4_2.toNatClampNeg).toInt = 35 → cT (61) sM_40 0 [(0, .ref 6), (1, .ref x3)] [] (N2) (va_up G2 6 (.inr (.inl (1, [.ref 7, .int i4_1, .int (i4_2 + 1)])))) (fun r40 N40 G40 kc40 ks40 => ∃ o40 : Option Nat, r40 = .inl (some (va_rf o40)) ∧ K (.inl (some (va_rf o40))) (N40) G40 (kc2 + kc40) (ks2 + ks40))) ∧ ((f18 i4_2.toNatClampNeg).toInt ≠ 35 → K (.inl (some (.null))) (N2) G2 (kc2) (ks2))))))))))))))) : cT (62) sM_39 0 [(0, .ref 6)] [] N G K := by
  intro d dc ds P hP
  refine w_mv (pc1 := 1) (st1 := [.ref 6]) rfl rfl rfl ?_
  refine w_mv (pc1 := 2) (st1 := [.int 1, .ref 6]) rfl rfl rfl ?_
  obtain ⟨b1b, i1_1, i1_2, g1, hh⟩ := hh
  refine w_call (M' := sM_28) (vals := [.ref 6, .int 1]) (rest := []) (lv' := [(0, .ref 6), (1, .int 1)]) rfl rfl rfl rfl rfl rfl (cH_rcv (by omega) (by omega) g1) rfl rfl rfl ?_
  refine hh _ _ _ _ (fun r2 N2 G2 kc2 ks2 hh => ?_)
  obtain ⟨o2, er2, hh⟩ := hh
  subst er2
  refine w_kr (pc1 := 5) rfl ?_
  refine w_mv (pc1 := 6) (lv1 := [(1, va_rf o2), (0, .ref 6)]) (st1 := []) rfl rfl (by cases o2 <;> rfl) ?_
  refine w_mv (pc1 := 7) (lv1 := [(1, va_rf o2), (0, .ref 6)]) (st1 := [va_rf o2]) rfl rfl (by cases o2 <;> rfl) ?_
  cases o2 with
  | none =>
    replace hh := hh.1 rfl
    refine w_mv (pc1 := 10) (st1 := []) rfl rfl rfl ?_
    refine w_mv (pc1 := 11) (st1 := [.null]) rfl rfl rfl ?_
    refine sx_wp.stop rfl rfl rfl ?_
    exact c_acc (hP _ _ _ _ _ hh) (by omega) (by omega)
  | some x3 =>
    replace hh := hh.2 x3 rfl
    refine w_mv (pc1 := 12) (st1 := []) rfl rfl rfl ?_
    refine w_mv (pc1 := 13) (st1 := [.ref 6]) rfl rfl rfl ?_
    refine w_mv (pc1 := 15) (st1 := [.int 61, .ref 6]) rfl rfl rfl ?_
    obtain ⟨b4b, i4_1, i4_2, g4, hh⟩ := hh
    refine w_call (M' := sM_32) (vals := [.ref 6, .int 61]) (rest := []) (lv' := [(0, .ref 6), (1, .int 61)]) rfl rfl rfl rfl rfl rfl (cH_rcv (by omega) (by omega) g4) rfl rfl rfl ?_
    refine w_mv (pc1 := 1) (st1 := [.ref 6]) rfl rfl rfl ?_
    refine cw_gf (v := .int i4_2) (pc1 := 4) rfl (by omega) (by omega) g4 rfl rfl ?_
    refine w_mv (pc1 := 5) (st1 := [.ref 6, .int i4_2]) rfl rfl rfl ?_
    refine cw_gf (v := .int i4_1) (pc1 := 8) rfl (by omega) (by omega) g4 rfl rfl ?_
    by_cases h5 : i4_1.toInt ≤ i4_2.toInt
    ·
      replace hh := hh.1 h5
      refine w_ige_T (pc1 := 24) rfl rfl (show i4_1.toInt ≤ i4_2.toInt from h5) ?_
      refine w_mv (pc1 := 25) (st1 := [.int 0]) rfl rfl rfl ?_
      refine w_iret (pc1 := 18) rfl rfl rfl rfl ?_
      refine w_mv (pc1 := 49) (st1 := []) rfl rfl rfl ?_
      refine w_mv (pc1 := 50) (st1 := [.ref x3]) rfl rfl rfl ?_
      obtain ⟨b6a, b6b, i6_0, i6_1, i6_3, i6_4, g6, hh⟩ := hh
      refine cw_gf (v := .int i6_0) (pc1 := 53) rfl (by omega) (by omega) g6 rfl rfl ?_
      by_cases h7 : i6_0.toInt = 0
      ·
        replace hh := hh.2 h7
        refine w_zne_F (pc1 := 56) rfl (by decide) rfl (show i6_0.toInt = 0 from h7) ?_
        refine w_mv (pc1 := 57) (st1 := [.ref 6]) rfl rfl rfl ?_
        refine w_mv (pc1 := 59) (st1 := [.int 35, .ref 6]) rfl rfl rfl ?_
        refine w_call (M' := sM_32) (vals := [.ref 6, .int 35]) (rest := []) (lv' := [(0, .ref 6), (1, .int 35)]) rfl rfl rfl rfl rfl rfl (cH_rcv (by omega) (by omega) g4) rfl rfl rfl ?_
        refine w_mv (pc1 := 1) (st1 := [.ref 6]) rfl rfl rfl ?_
        refine cw_gf (v := .int i4_2) (pc1 := 4) rfl (by omega) (by omega) g4 rfl rfl ?_
        refine w_mv (pc1 := 5) (st1 := [.ref 6, .int i4_2]) rfl rfl rfl ?_
        refine cw_gf (v := .int i4_1) (pc1 := 8) rfl (by omega) (by omega) g4 rfl rfl ?_
        by_cases h8 : i4_1.toInt ≤ i4_2.toInt
        ·
          replace hh := hh.1 h8
          refine w_ige_T (pc1 := 24) rfl rfl (show i4_1.toInt ≤ i4_2.toInt from h8) ?_
          refine w_mv (pc1 := 25) (st1 := [.int 0]) rfl rfl rfl ?_
          refine w_iret (pc1 := 62) rfl rfl rfl rfl ?_
          refine w_mv (pc1 := 73) (st1 := []) rfl rfl rfl ?_
          refine w_mv (pc1 := 74) (st1 := [.null]) rfl rfl rfl ?_
          refine sx_wp.stop rfl rfl rfl ?_
          exact c_acc (hP _ _ _ _ _ hh) (by omega) (by omega)
        ·
          replace hh := hh.2 (Int.not_le.mp h8)
          refine w_ige_F (pc1 := 11) rfl (by decide) rfl (show i4_2.toInt < i4_1.toInt from (Int.not_le.mp h8)) ?_
          refine w_mv (pc1 := 12) (st1 := [.ref 6]) rfl rfl rfl ?_
          refine cw_gf (v := .ref 7) (pc1 := 15) rfl (by omega) (by omega) g4 rfl rfl ?_
          refine w_mv (pc1 := 16) (st1 := [.ref 6, .ref 7]) rfl rfl rfl ?_
          refine cw_gf (v := .int i4_2) (pc1 := 19) rfl (by omega) (by omega) g4 rfl rfl ?_
          obtain ⟨b9b, f9, g9, hh⟩ := hh
          obtain ⟨q10a, q10b, hh⟩ := hh
          refine cw_bld (pc1 := 20) rfl (by omega) g9 q10a q10b rfl ?_
          refine w_mv (pc1 := 21) (st1 := [.int 35, .int (f9 i4_2.toNatClampNeg)]) rfl rfl rfl ?_
          by_cases h11 : (f9 i4_2.toNatClampNeg).toInt = 35
          ·
            replace hh := hh.1 h11
            refine w_ieq_T (pc1 := 26) rfl rfl (show (f9 i4_2.toNatClampNeg).toInt = 35 from h11) ?_
            refine w_mv (pc1 := 27) (st1 := [.ref 6]) rfl rfl rfl ?_
            refine w_mv (pc1 := 28) (st1 := [.ref 6, .ref 6]) rfl rfl rfl ?_
            refine cw_gf (v := .int i4_2) (pc1 := 31) rfl (by omega) (by omega) g4 rfl rfl ?_
            refine w_mv (pc1 := 32) (st1 := [.int 1, .int i4_2, .ref 6]) rfl rfl rfl ?_
            refine w_mv (pc1 := 33) (st1 := [.int (i4_2 + 1), .ref 6]) rfl rfl rfl ?_
            refine cw_pf (c1 := .inr (.inl (1, [.ref 7, .int i4_1, .int (i4_2 + 1)]))) (pc1 := 36) rfl (by omega) (by omega) g4 rfl rfl rfl rfl ?_
            have g12 : (va_up G2 6 (.inr (.inl (1, [.ref 7, .int i4_1, .int (i4_2 + 1)])))) x3 = .inr (.inl (7, [.int i6_0, .int i6_1, .ref (x3 + 1), .int i6_3, .int i6_4])) := (va_ne (ne_ob g6 g4 (by decide))).trans g6
            have g13 : (va_up G2 6 (.inr (.inl (1, [.ref 7, .int i4_1, .int (i4_2 + 1)])))) 7 = .inl (1, (48, .inl f9)) := (va_ne (ne_ao g9 g4)).trans g9
            have g14 : (va_up G2 6 (.inr (.inl (1, [.ref 7, .int i4_1, .int (i4_2 + 1)])))) 6 = .inr (.inl (1, [.ref 7, .int i4_1, .int (i4_2 + 1)])) := up_eq
            refine w_mv (pc1 := 37) (st1 := [.int 1]) rfl rfl rfl ?_
            refine w_iret (pc1 := 62) rfl rfl rfl rfl ?_
            refine w_mv (pc1 := 65) (st1 := []) rfl rfl rfl ?_
            refine w_mv (pc1 := 66) (st1 := [.ref 6]) rfl rfl rfl ?_
            refine w_mv (pc1 := 67) (st1 := [.ref x3, .ref 6]) rfl rfl rfl ?_
            refine w_call (M' := sM_40) (vals := [.ref 6, .ref x3]) (rest := []) (lv' := [(0, .ref 6), (1, .ref x3)]) rfl rfl rfl rfl rfl rfl (cH_rcv (by omega) (by omega) g14) rfl rfl rfl ?_
            refine hh _ _ _ _ (fun r15 N15 G15 kc15 ks15 hh => ?_)
            obtain ⟨o15, er15, hh⟩ := hh
            subst er15
            refine w_kr (pc1 := 70) rfl ?_
            refine w_mv (pc1 := 74) (st1 := [va_rf o15]) rfl rfl rfl ?_
            refine sx_wp.stop (v := .inl (some (va_rf o15))) (hs1 := cH (N15) G15) (dc1 := 0) (ds1 := 0) rfl rfl (by cases o15 <;> rfl) ?_
            exact c_acc (hP _ _ _ _ _ hh) (by omega) (by omega)
          ·
            replace hh := hh.2 h11
            refine w_ieq_F (pc1 := 24) rfl (by decide) rfl (show (f9 i4_2.toNatClampNeg).toInt ≠ 35 from h11) ?_
            refine w_mv (pc1 := 25) (st1 := [.int 0]) rfl rfl rfl ?_
            refine w_iret (pc1 := 62) rfl rfl rfl rfl ?_
            refine w_mv (pc1 := 73) (st1 := []) rfl rfl rfl ?_
            refine w_mv (pc1 := 74) (st1 := [.null]) rfl rfl rfl ?_
            refine sx_wp.stop rfl rfl rfl ?_
            exact c_acc (hP _ _ _ _ _ hh) (by omega) (by omega)
      ·
        replace hh := hh.1 h7
        refine w_zne_T (pc1 := 75) rfl rfl (show i6_0.toInt ≠ 0 from h7) ?_
        refine w_mv (pc1 := 76) (st1 := [.ref x3]) rfl rfl rfl ?_
        refine cw_gf (v := .int i6_0) (pc1 := 79) rfl (by omega) (by omega) g6 rfl rfl ?_
        refine w_mv (pc1 := 80) (st1 := [.int 2, .int i6_0]) rfl rfl rfl ?_
        by_cases h16 : i6_0.toInt = 2
        ·
          replace hh := hh.2 h16
          refine w_ine_F (pc1 := 83) rfl (by decide) rfl (show i6_0.toInt = 2 from h16) ?_
          refine w_mv (pc1 := 84) (st1 := [.ref 6]) rfl rfl rfl ?_
          refine w_mv (pc1 := 85) (st1 := [.ref x3, .ref 6]) rfl rfl rfl ?_
          refine w_call (M' := sM_41) (vals := [.ref 6, .ref x3]) (rest := []) (lv' := [(0, .ref 6), (1, .ref x3)]) rfl rfl rfl rfl rfl rfl (cH_rcv (by omega) (by omega) g4) rfl rfl rfl ?_
          refine hh _ _ _ _ (fun r17 N17 G17 kc17 ks17 hh => ?_)
          obtain ⟨o17, er17, hh⟩ := hh
          subst er17
          refine w_kr (pc1 := 88) rfl ?_
          refine w_mv (pc1 := 92) (st1 := [va_rf o17]) rfl rfl rfl ?_
          refine sx_wp.stop (v := .inl (some (va_rf o17))) (hs1 := cH (N17) G17) (dc1 := 0) (ds1 := 0) rfl rfl (by cases o17 <;> rfl) ?_
          exact c_acc (hP _ _ _ _ _ hh) (by omega) (by omega)
        ·
          replace hh := hh.1 h16
          refine w_ine_T (pc1 := 91) rfl rfl (show i6_0.toInt ≠ 2 from h16) ?_
          refine w_mv (pc1 := 92) (st1 := [.null]) rfl rfl rfl ?_
          refine sx_wp.stop rfl rfl rfl ?_
          exact c_acc (hP _ _ _ _ _ hh) (by omega) (by omega)
    ·
      replace hh := hh.2 (Int.not_le.mp h5)
      refine w_ige_F (pc1 := 11) rfl (by decide) rfl (show i4_2.toInt < i4_1.toInt from (Int.not_le.mp h5)) ?_
      refine w_mv (pc1 := 12) (st1 := [.ref 6]) rfl rfl rfl ?_
      refine cw_gf (v := .ref 7) (pc1 := 15) rfl (by omega) (by omega) g4 rfl rfl ?_
      refine w_mv (pc1 := 16) (st1 := [.ref 6, .ref 7]) rfl rfl rfl ?_
      refine cw_gf (v := .int i4_2) (pc1 := 19) rfl (by omega) (by omega) g4 rfl rfl ?_
      obtain ⟨b18b, f18, g18, hh⟩ := hh
      obtain ⟨q19a, q19b, hh⟩ := hh
      refine cw_bld (pc1 := 20) rfl (by omega) g18 q19a q19b rfl ?_
      refine w_mv (pc1 := 21) (st1 := [.int 61, .int (f18 i4_2.toNatClampNeg)]) rfl rfl rfl ?_
      by_cases h20 : (f18 i4_2.toNatClampNeg).toInt = 61
      ·
        replace hh := hh.1 h20
        refine w_ieq_T (pc1 := 26) rfl rfl (show (f18 i4_2.toNatClampNeg).toInt = 61 from h20) ?_
        refine w_mv (pc1 := 27) (st1 := [.ref 6]) rfl rfl rfl ?_
        refine w_mv (pc1 := 28) (st1 := [.ref 6, .ref 6]) rfl rfl rfl ?_
        refine cw_gf (v := .int i4_2) (pc1 := 31) rfl (by omega) (by omega) g4 rfl rfl ?_
        refine w_mv (pc1 := 32) (st1 := [.int 1, .int i4_2, .ref 6]) rfl rfl rfl ?_
        refine w_mv (pc1 := 33) (st1 := [.int (i4_2 + 1), .ref 6]) rfl rfl rfl ?_
        refine cw_pf (c1 := .inr (.inl (1, [.ref 7, .int i4_1, .int (i4_2 + 1)]))) (pc1 := 36) rfl (by omega) (by omega) g4 rfl rfl rfl rfl ?_
        have g21 : (va_up G2 6 (.inr (.inl (1, [.ref 7, .int i4_1, .int (i4_2 + 1)])))) 7 = .inl (1, (48, .inl f18)) := (va_ne (ne_ao g18 g4)).trans g18
        have g22 : (va_up G2 6 (.inr (.inl (1, [.ref 7, .int i4_1, .int (i4_2 + 1)])))) 6 = .inr (.inl (1, [.ref 7, .int i4_1, .int (i4_2 + 1)])) := up_eq
        refine w_mv (pc1 := 37) (st1 := [.int 1]) rfl rfl rfl ?_
        refine w_iret (pc1 := 18) rfl rfl rfl rfl ?_
        refine w_mv (pc1 := 21) (st1 := []) rfl rfl rfl ?_
        refine w_mv (pc1 := 22) (st1 := [.ref 6]) rfl rfl rfl ?_
        refine w_mv (pc1 := 23) (st1 := [.int 1, .ref 6]) rfl rfl rfl ?_
        refine w_call (M' := sM_28) (vals := [.ref 6, .int 1]) (rest := []) (lv' := [(0, .ref 6), (1, .int 1)]) rfl rfl rfl rfl rfl rfl (cH_rcv (by omega) (by omega) g22) rfl rfl rfl ?_
        refine hh _ _ _ _ (fun r23 N23 G23 kc23 ks23 hh => ?_)
        obtain ⟨o23, er23, hh⟩ := hh
        subst er23
        refine w_kr (pc1 := 26) rfl ?_
        refine w_mv (pc1 := 27) (lv1 := [(2, va_rf o23), (1, .ref x3), (0, .ref 6)]) (st1 := []) rfl rfl (by cases o23 <;> rfl) ?_
        refine w_mv (pc1 := 28) (lv1 := [(2, va_rf o23), (1, .ref x3), (0, .ref 6)]) (st1 := [va_rf o23]) rfl rfl (by cases o23 <;> rfl) ?_
        cases o23 with
        | none =>
          replace hh := hh.1 rfl
          refine w_mv (pc1 := 31) (st1 := []) rfl rfl rfl ?_
          refine w_mv (pc1 := 32) (st1 := [.null]) rfl rfl rfl ?_
          refine w_mv (pc1 := 48) (st1 := [.null]) rfl rfl rfl ?_
          refine sx_wp.stop rfl rfl rfl ?_
          exact c_acc (hP _ _ _ _ _ hh) (by omega) (by omega)
        | some x24 =>
          replace hh := hh.2 x24 rfl
          refine w_mv (pc1 := 35) (st1 := []) rfl rfl rfl ?_
          obtain ⟨q25a, hh⟩ := hh
          refine cw_new (k := 5) (c1 := .inr (.inl (9, [.int 0, .int 0, .null, .null, .null]))) (pc1 := 38) rfl rfl rfl rfl ?_
          have g26 : (va_up G23 N23 (.inr (.inl (9, [.int 0, .int 0, .null, .null, .null])))) N23 = .inr (.inl (9, [.int 0, .int 0, .null, .null, .null])) := up_eq
          refine w_mv (pc1 := 39) (st1 := [.ref N23, .ref N23]) rfl rfl rfl ?_
          refine w_mv (pc1 := 41) (st1 := [.int 61, .ref N23, .ref N23]) rfl rfl rfl ?_
          refine w_mv (pc1 := 42) (st1 := [.int (-1), .int 61, .ref N23, .ref N23]) rfl rfl rfl ?_
          refine w_mv (pc1 := 43) (st1 := [.ref x3, .int (-1), .int 61, .ref N23, .ref N23]) rfl rfl rfl ?_
          refine w_mv (pc1 := 44) (st1 := [.ref x24, .ref x3, .int (-1), .int 61, .ref N23, .ref N23]) rfl rfl rfl ?_
          refine w_mv (pc1 := 45) (st1 := [.null, .ref x24, .ref x3, .int (-1), .int 61, .ref N23, .ref N23]) rfl rfl rfl ?_
          refine w_call (M' := sM_38) (vals := [.ref N23, .int 61, .int (-1), .ref x3, .ref x24, .null]) (rest := [.ref N23]) (lv' := [(0, .ref N23), (1, .int 61), (2, .int (-1)), (3, .ref x3), (4, .ref x24), (5, .null)]) rfl rfl rfl rfl rfl rfl rfl rfl rfl rfl ?_
          refine w_mv (pc1 := 1) (st1 := [.ref N23]) rfl rfl rfl ?_
          refine w_obj (pc1 := 4) (st1 := []) rfl rfl rfl ⟨by omega, Nat.le_of_ble_eq_true rfl⟩ rfl ?_
          refine w_mv (pc1 := 5) (st1 := [.ref N23]) rfl rfl rfl ?_
          refine w_mv (pc1 := 6) (st1 := [.int 61, .ref N23]) rfl rfl rfl ?_
          refine cw_pf (c1 := .inr (.inl (9, [.int 61, .int 0, .null, .null, .null]))) (pc1 := 9) rfl (by omega) (by omega) g26 rfl rfl rfl rfl ?_
          have g27 : (va_up (va_up G23 N23 (.inr (.inl (9, [.int 0, .int 0, .null, .null, .null])))) N23 (.inr (.inl (9, [.int 61, .int 0, .null, .null, .null])))) N23 = .inr (.inl (9, [.int 61, .int 0, .null, .null, .null])) := up_eq
          refine w_mv (pc1 := 10) (st1 := [.ref N23]) rfl rfl rfl ?_
          refine w_mv (pc1 := 11) (st1 := [.int (-1), .ref N23]) rfl rfl rfl ?_
          refine cw_pf (c1 := .inr (.inl (9, [.int 61, .int (-1), .null, .null, .null]))) (pc1 := 14) rfl (by omega) (by omega) g27 rfl rfl rfl rfl ?_
          rw [va_uu]
          have g28 : (va_up (va_up G23 N23 (.inr (.inl (9, [.int 0, .int 0, .null, .null, .null])))) N23 (.inr (.inl (9, [.int 61, .int (-1), .null, .null, .null])))) N23 = .inr (.inl (9, [.int 61, .int (-1), .null, .null, .null])) := up_eq
          refine w_mv (pc1 := 15) (st1 := [.ref N23]) rfl rfl rfl ?_
          refine w_mv (pc1 := 16) (st1 := [.ref x3, .ref N23]) rfl rfl rfl ?_
          refine cw_pf (c1 := .inr (.inl (9, [.int 61, .int (-1), .ref x3, .null, .null]))) (pc1 := 19) rfl (by omega) (by omega) g28 rfl rfl rfl rfl ?_
          rw [va_uu]
          have g29 : (va_up (va_up G23 N23 (.inr (.inl (9, [.int 0, .int 0, .null, .null, .null])))) N23 (.inr (.inl (9, [.int 61, .int (-1), .ref x3, .null, .null])))) N23 = .inr (.inl (9, [.int 61, .int (-1), .ref x3, .null, .null])) := up_eq
          refine w_mv (pc1 := 20) (st1 := [.ref N23]) rfl rfl rfl ?_
          refine w_mv (pc1 := 22) (st1 := [.ref x24, .ref N23]) rfl rfl rfl ?_
          refine cw_pf (c1 := .inr (.inl (9, [.int 61, .int (-1), .ref x3, .ref x24, .null]))) (pc1 := 25) rfl (by omega) (by omega) g29 rfl rfl rfl rfl ?_
          rw [va_uu]
          have g30 : (va_up (va_up G23 N23 (.inr (.inl (9, [.int 0, .int 0, .null, .null, .null])))) N23 (.inr (.inl (9, [.int 61, .int (-1), .ref x3, .ref x24, .null])))) N23 = .inr (.inl (9, [.int 61, .int (-1), .ref x3, .ref x24, .null])) := up_eq
          refine w_mv (pc1 := 26) (st1 := [.ref N23]) rfl rfl rfl ?_
          refine w_mv (pc1 := 28) (st1 := [.null, .ref N23]) rfl rfl rfl ?_
          refine cw_pf (c1 := .inr (.inl (9, [.int 61, .int (-1), .ref x3, .ref x24, .null]))) (pc1 := 31) rfl (by omega) (by omega) g30 rfl rfl rfl rfl ?_
          rw [va_uu]
          have g31 : (va_up (va_up G23 N23 (.inr (.inl (9, [.int 0, .int 0, .null, .null, .null])))) N23 (.inr (.inl (9, [.int 61, .int (-1), .ref x3, .ref x24, .null])))) N23 = .inr (.inl (9, [.int 61, .int (-1), .ref x3, .ref x24, .null])) := up_eq
          refine w_vret (pc1 := 48) rfl rfl rfl ?_
          refine sx_wp.stop rfl rfl rfl ?_
          exact c_acc (hP _ _ _ _ _ hh) (by omega) (by omega)
      ·
        replace hh := hh.2 h20
        refine w_ieq_F (pc1 := 24) rfl (by decide) rfl (show (f18 i4_2.toNatClampNeg).toInt ≠ 61 from h20) ?_
        refine w_mv (pc1 := 25) (st1 := [.int 0]) rfl rfl rfl ?_
        refine w_iret (pc1 := 18) rfl rfl rfl rfl ?_
        refine w_mv (pc1 := 49) (st1 := []) rfl rfl rfl ?_
        refine w_mv (pc1 := 50) (st1 := [.ref x3]) rfl rfl rfl ?_
        obtain ⟨b32a, b32b, i32_0, i32_1, i32_3, i32_4, g32, hh⟩ := hh
        refine cw_gf (v := .int i32_0) (pc1 := 53) rfl (by omega) (by omega) g32 rfl rfl ?_
        by_cases h33 : i32_0.toInt = 0
        ·
          replace hh := hh.2 h33
          refine w_zne_F (pc1 := 56) rfl (by decide) rfl (show i32_0.toInt = 0 from h33) ?_
          refine w_mv (pc1 := 57) (st1 := [.ref 6]) rfl rfl rfl ?_
          refine w_mv (pc1 := 59) (st1 := [.int 35, .ref 6]) rfl rfl rfl ?_
          refine w_call (M' := sM_32) (vals := [.ref 6, .int 35]) (rest := []) (lv' := [(0, .ref 6), (1, .int 35)]) rfl rfl rfl rfl rfl rfl (cH_rcv (by omega) (by omega) g4) rfl rfl rfl ?_
          refine w_mv (pc1 := 1) (st1 := [.ref 6]) rfl rfl rfl ?_
          refine cw_gf (v := .int i4_2) (pc1 := 4) rfl (by omega) (by omega) g4 rfl rfl ?_
          refine w_mv (pc1 := 5) (st1 := [.ref 6, .int i4_2]) rfl rfl rfl ?_
          refine cw_gf (v := .int i4_1) (pc1 := 8) rfl (by omega) (by omega) g4 rfl rfl ?_
          by_cases h34 : i4_1.toInt ≤ i4_2.toInt
          ·
            replace hh := hh.1 h34
            refine w_ige_T (pc1 := 24) rfl rfl (show i4_1.toInt ≤ i4_2.toInt from h34) ?_
            refine w_mv (pc1 := 25) (st1 := [.int 0]) rfl rfl rfl ?_
            refine w_iret (pc1 := 62) rfl rfl rfl rfl ?_
            refine w_mv (pc1 := 73) (st1 := []) rfl rfl rfl ?_
            refine w_mv (pc1 := 74) (st1 := [.null]) rfl rfl rfl ?_
            refine sx_wp.stop rfl rfl rfl ?_
            exact c_acc (hP _ _ _ _ _ hh) (by omega) (by omega)
          ·
            replace hh := hh.2 (Int.not_le.mp h34)
            refine w_ige_F (pc1 := 11) rfl (by decide) rfl (show i4_2.toInt < i4_1.toInt from (Int.not_le.mp h34)) ?_
            refine w_mv (pc1 := 12) (st1 := [.ref 6]) rfl rfl rfl ?_
            refine cw_gf (v := .ref 7) (pc1 := 15) rfl (by omega) (by omega) g4 rfl rfl ?_
            refine w_mv (pc1 := 16) (st1 := [.ref 6, .ref 7]) rfl rfl rfl ?_
            refine cw_gf (v := .int i4_2) (pc1 := 19) rfl (by omega) (by omega) g4 rfl rfl ?_
            obtain ⟨q35a, q35b, hh⟩ := hh
            refine cw_bld (pc1 := 20) rfl (by omega) g18 q35a q35b rfl ?_
            refine w_mv (pc1 := 21) (st1 := [.int 35, .int (f18 i4_2.toNatClampNeg)]) rfl rfl rfl ?_
            by_cases h36 : (f18 i4_2.toNatClampNeg).toInt = 35
            ·
              replace hh := hh.1 h36
              refine w_ieq_T (pc1 := 26) rfl rfl (show (f18 i4_2.toNatClampNeg).toInt = 35 from h36) ?_
              refine w_mv (pc1 := 27) (st1 := [.ref 6]) rfl rfl rfl ?_
              refine w_mv (pc1 := 28) (st1 := [.ref 6, .ref 6]) rfl rfl rfl ?_
              refine cw_gf (v := .int i4_2) (pc1 := 31) rfl (by omega) (by omega) g4 rfl rfl ?_
              refine w_mv (pc1 := 32) (st1 := [.int 1, .int i4_2, .ref 6]) rfl rfl rfl ?_
              refine w_mv (pc1 := 33) (st1 := [.int (i4_2 + 1), .ref 6]) rfl rfl rfl ?_
              refine cw_pf (c1 := .inr (.inl (1, [.ref 7, .int i4_1, .int (i4_2 + 1)]))) (pc1 := 36) rfl (by omega) (by omega) g4 rfl rfl rfl rfl ?_
              have g37 : (va_up G2 6 (.inr (.inl (1, [.ref 7, .int i4_1, .int (i4_2 + 1)])))) 7 = .inl (1, (48, .inl f18)) := (va_ne (ne_ao g18 g4)).trans g18
              have g38 : (va_up G2 6 (.inr (.inl (1, [.ref 7, .int i4_1, .int (i4_2 + 1)])))) x3 = .inr (.inl (7, [.int i32_0, .int i32_1, .ref (x3 + 1), .int i32_3, .int i32_4])) := (va_ne (ne_ob g32 g4 (by decide))).trans g32
              have g39 : (va_up G2 6 (.inr (.inl (1, [.ref 7, .int i4_1, .int (i4_2 + 1)])))) 6 = .inr (.inl (1, [.ref 7, .int i4_1, .int (i4_2 + 1)])) := up_eq
              refine w_mv (pc1 := 37) (st1 := [.int 1]) rfl rfl rfl ?_
              refine w_iret (pc1 := 62) rfl rfl rfl rfl ?_
              refine w_mv (pc1 := 65) (st1 := []) rfl rfl rfl ?_
              refine w_mv (pc1 := 66) (st1 := [.ref 6]) rfl rfl rfl ?_
              refine w_mv (pc1 := 67) (st1 := [.ref x3, .ref 6]) rfl rfl rfl ?_
              refine w_call (M' := sM_40) (vals := [.ref 6, .ref x3]) (rest := []) (lv' := [(0, .ref 6), (1, .ref x3)]) rfl rfl rfl rfl rfl rfl (cH_rcv (by omega) (by omega) g39) rfl rfl rfl ?_
              refine hh _ _ _ _ (fun r40 N40 G40 kc40 ks40 hh => ?_)
              obtain ⟨o40, er40, hh⟩ := hh
              subst er40
              refine w_kr (pc1 := 70) rfl ?_
              refine w_mv (pc1 := 74) (st1 := [va_rf o40]) rfl rfl rfl ?_
              refine sx_wp.stop (v := .inl (some (va_rf o40))) (hs1 := cH (N40) G40) (dc1 := 0) (ds1 := 0) rfl rfl (by cases o40 <;> rfl) ?_
              exact c_acc (hP _ _ _ _ _ hh) (by omega) (by omega)
            ·
              replace hh := hh.2 h36
              refine w_ieq_F (pc1 := 24) rfl (by decide) rfl (show (f18 i4_2.toNatClampNeg).toInt ≠ 35 from h36) ?_
              refine w_mv (pc1 := 25) (st1 := [.int 0]) rfl rfl rfl ?_
              refine w_iret (pc1 := 62) rfl rfl rfl rfl ?_
              refine w_mv (pc1 := 73) (st1 := []) rfl rfl rfl ?_
              refine w_mv (pc1 := 74) (st1 := [.null]) rfl rfl rfl ?_
              refine sx_wp.stop rfl rfl rfl ?_
              exact c_acc (hP _ _ _ _ _ hh) (by omega) (by omega)
        ·
          replace hh := hh.1 h33
          refine w_zne_T (pc1 := 75) rfl rfl (show i32_0.toInt ≠ 0 from h33) ?_
          refine w_mv (pc1 := 76) (st1 := [.ref x3]) rfl rfl rfl ?_
          refine cw_gf (v := .int i32_0) (pc1 := 79) rfl (by omega) (by omega) g32 rfl rfl ?_
          refine w_mv (pc1 := 80) (st1 := [.int 2, .int i32_0]) rfl rfl rfl ?_
          by_cases h41 : i32_0.toInt = 2
          ·
            replace hh := hh.2 h41
            refine w_ine_F (pc1 := 83) rfl (by decide) rfl (show i32_0.toInt = 2 from h41) ?_
            refine w_mv (pc1 := 84) (st1 := [.ref 6]) rfl rfl rfl ?_
            refine w_mv (pc1 := 85) (st1 := [.ref x3, .ref 6]) rfl rfl rfl ?_
            refine w_call (M' := sM_41) (vals := [.ref 6, .ref x3]) (rest := []) (lv' := [(0, .ref 6), (1, .ref x3)]) rfl rfl rfl rfl rfl rfl (cH_rcv (by omega) (by omega) g4) rfl rfl rfl ?_
            refine hh _ _ _ _ (fun r42 N42 G42 kc42 ks42 hh => ?_)
            obtain ⟨o42, er42, hh⟩ := hh
            subst er42
            refine w_kr (pc1 := 88) rfl ?_
            refine w_mv (pc1 := 92) (st1 := [va_rf o42]) rfl rfl rfl ?_
            refine sx_wp.stop (v := .inl (some (va_rf o42))) (hs1 := cH (N42) G42) (dc1 := 0) (ds1 := 0) rfl rfl (by cases o42 <;> rfl) ?_
            exact c_acc (hP _ _ _ _ _ hh) (by omega) (by omega)
          ·
            replace hh := hh.1 h41
            refine w_ine_T (pc1 := 91) rfl rfl (show i32_0.toInt ≠ 2 from h41) ?_
            refine w_mv (pc1 := 92) (st1 := [.null]) rfl rfl rfl ?_
            refine sx_wp.stop rfl rfl rfl ?_
            exact c_acc (hP _ _ _ _ _ hh) (by omega) (by omega)
