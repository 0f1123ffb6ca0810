/-! THE IMAGES of the law and of its helpers (by program: wip/sx/gen_law.py) -/
section LW
variable {N : Nat} {G : Nat → sx_C} {d dc ds pc pc1 x i a b : Nat} {M : sx_M} {lv : List (Nat × Value)} {r : List Value} {P : Option Value ⊕ Nat → sx_H → Nat → Nat → Prop}
theorem c_sw0_7 {x : Int32} (h0 : ¬ x = 0) (h1 : ¬ x = 1) (h2 : ¬ x = 2) (h3 : ¬ x = 3) (h4 : ¬ x = 4) (h5 : ¬ x = 5) (h6 : ¬ x = 6) (h7 : ¬ x = 7) : x.toInt < 0 ∨ 7 < x.toInt := by
  have q : ∀ (k : Int32), ¬ x = k → x.toInt ≠ k.toInt := fun k hk e => hk (Int32.toInt_inj.mp e)
  have q0 : x.toInt ≠ 0 := q 0 h0
  have q1 : x.toInt ≠ 1 := q 1 h1
  have q2 : x.toInt ≠ 2 := q 2 h2
  have q3 : x.toInt ≠ 3 := q 3 h3
  have q4 : x.toInt ≠ 4 := q 4 h4
  have q5 : x.toInt ≠ 5 := q 5 h5
  have q6 : x.toInt ≠ 6 := q 6 h6
  have q7 : x.toInt ≠ 7 := q 7 h7
  omega
theorem cw_lst {n : Nat} {g : Nat → Int64} {z : Int32} {v : Int64} (hI : M.2.2.2.2.2.2.1 pc = some (.lastore, 1, a, b)) (h2 : 5 ≤ x) (hx : x < N) (hG : G x = .inl (3, (n, .inr (.inl g)))) (h0 : 0 ≤ z.toInt) (h1 : z.toInt < (n : Int)) (hp : pc + 1 = pc1) (h : s_wp d M pc1 lv r (cH N (va_up G x (.inl (3, (n, .inr (.inl (vp_updL g z.toNatClampNeg v))))))) dc ds P) : s_wp d M pc lv (.long v :: .int z :: .ref x :: r) (cH N G) dc ds P := by
  subst hp
  rw [← cH_set] at h
  refine w_st (dc1 := 0) (ds1 := 0) hI rfl ?_ rfl rfl h
  show ((sx_arr (cH N G) x).bind fun o => (sx_al o.2).bind fun f => if s_tf o.1 = .long ∧ 5 ≤ x ∧ ¬ (z < 0 ∨ o.2.1 ≤ z.toNatClampNeg) then some ((pc + 1, lv, r), (cH N G).set x (.inl (o.1, (o.2.1, .inr (.inl (vp_updL f z.toNatClampNeg v))))), 0, 0) else none) = _
  rw [cH_arr hx hG, Option.bind_some]
  show (if s_tf 3 = .long ∧ 5 ≤ x ∧ ¬ (z < 0 ∨ n ≤ z.toNatClampNeg) then _ else _) = _
  rw [if_pos ⟨rfl, h2, c_in h0 h1⟩]
theorem w_kx {pc0 y j h9 : Nat} {rest : List Value} {hs : sx_H} {i0 : Instr} (hj : hs[y]? = some (.inr (.inr j))) (hf : sx_find M.2.2.2.2.2.2.2 pc0 j = some h9) (hK : 5 ≤ y) (hv : sx_isV i0 = true) (h : s_wp (d + 1) M h9 lv [.ref y] hs dc ds P) : s_kont d M pc0 lv rest i0 P (.inr y) hs dc ds := ⟨j, h9, hj, hf, ⟨hK, hv⟩, h⟩
end LW
set_option maxRecDepth 20000 in
set_option maxHeartbeats 4000000 in
theorem kh_18 {h : Nat} {e : Int64} {N : Nat} {G : Nat → sx_C} {K : Option Value ⊕ Nat → Nat → (Nat → sx_C) → Nat → Nat → Prop} (hh : 5 < N ∧ ∃ f1, G 5 = oC 0 f1 ∧ cT (h) sM_19 0 [(0, .ref 5), (1, .long e)] [] (N) G (fun r2 N2 G2 kc2 ks2 => (∃ v2 : Int32, r2 = .inl (some (.int v2)) ∧ 64 < N2 ∧ ∃ g3 : Nat → Int64, G2 64 = .inl (3, (1, .inr (.inl g3))) ∧ K (.inl (some (.int 0))) (N2) (va_up G2 64 (.inl (3, (1, .inr (.inl (vp_updL g3 0 (Int32.toInt64 v2))))))) (kc2) (ks2)) ∨ (∃ x2, r2 = .inr x2 ∧ 5 ≤ x2 ∧ x2 < N2 ∧ ((G2 x2 = .inr (.inr 0) ∧ K (.inl (some (.int 1))) (N2) G2 (kc2) (ks2)) ∨ (G2 x2 = .inr (.inr 1) ∧ K (.inl (some (.int 2))) (N2) G2 (kc2) (ks2)))))) : cT (h + 1) sM_18 0 [(0, .ref 5), (1, .long e), (3, .ref 64)] [] N G K := by
  intro d dc ds P hP
  refine w_mv (pc1 := 1) (st1 := [.ref 64]) rfl rfl rfl ?_
  refine w_mv (pc1 := 2) (st1 := [.int 0, .ref 64]) rfl rfl rfl ?_
  refine w_mv (pc1 := 3) (st1 := [.ref 5, .int 0, .ref 64]) rfl rfl rfl ?_
  refine w_mv (pc1 := 4) (st1 := [.long e, .ref 5, .int 0, .ref 64]) rfl rfl rfl ?_
  obtain ⟨q1a, f1, q1b, hh⟩ := hh
  refine w_call (M' := sM_19) (vals := [.ref 5, .long e]) (rest := [.int 0, .ref 64]) (lv' := [(0, .ref 5), (1, .long e)]) rfl rfl rfl rfl rfl rfl (cH_rcv (by omega) q1a q1b) rfl rfl rfl ?_
  refine hh _ _ _ _ (fun r2 N2 G2 kc2 ks2 hh => ?_)
  rcases hh with ⟨v2, er2, hh⟩ | ⟨x2, er2, x5, xN, hh⟩
  ·
    subst er2
    refine w_ki (pc1 := 7) rfl ?_
    refine w_mv (pc1 := 8) (st1 := [.long (Int32.toInt64 v2), .int 0, .ref 64]) rfl rfl rfl ?_
    obtain ⟨q3a, g3, q3b, hh⟩ := hh
    refine cw_lst (pc1 := 9) rfl (by decide) q3a q3b (by decide) (by decide) rfl ?_
    refine w_mv (pc1 := 20) (st1 := []) rfl rfl rfl ?_
    refine w_mv (pc1 := 21) (st1 := [.int 0]) rfl rfl rfl ?_
    refine sx_wp.stop rfl rfl rfl ?_
    exact c_acc (hP _ _ _ _ _ hh) (by omega) (by omega)
  ·
    subst er2
    rcases hh with ⟨ex, hh⟩ | hh
    ·
      refine w_kx (j := 0) (h9 := 12) ((cH_get xN).trans (congrArg some ex)) rfl x5 rfl ?_
      refine w_mv (pc1 := 14) (lv1 := [(4, .ref x2), (0, .ref 5), (1, .long e), (3, .ref 64)]) (st1 := []) rfl rfl rfl ?_
      refine w_mv (pc1 := 15) (st1 := [.int 1]) rfl rfl rfl ?_
      refine sx_wp.stop rfl rfl rfl ?_
      exact c_acc (hP _ _ _ _ _ hh) (by omega) (by omega)
    obtain ⟨ex, hh⟩ := hh
    refine w_kx (j := 1) (h9 := 16) ((cH_get xN).trans (congrArg some ex)) rfl x5 rfl ?_
    refine w_mv (pc1 := 18) (lv1 := [(4, .ref x2), (0, .ref 5), (1, .long e), (3, .ref 64)]) (st1 := []) rfl rfl rfl ?_
    refine w_mv (pc1 := 19) (st1 := [.int 2]) rfl rfl rfl ?_
    refine sx_wp.stop rfl rfl rfl ?_
    exact c_acc (hP _ _ _ _ _ hh) (by omega) (by omega)
set_option maxRecDepth 20000 in
set_option maxHeartbeats 4000000 in
theorem kh_22 {h : Nat} {N : Nat} {G : Nat → sx_C} {K : Option Value ⊕ Nat → Nat → (Nat → sx_C) → Nat → Nat → Prop} (hh : 5 < N ∧ ∃ f1, G 5 = oC 0 f1 ∧ cT (h) sM_23 0 [(0, .ref 5)] [] (N) G (fun r2 N2 G2 kc2 ks2 => (∃ v2 : Int32, r2 = .inl (some (.int v2)) ∧ 64 < N2 ∧ ∃ g3 : Nat → Int64, G2 64 = .inl (3, (1, .inr (.inl g3))) ∧ K (.inl (some (.int 0))) (N2) (va_up G2 64 (.inl (3, (1, .inr (.inl (vp_updL g3 0 (Int32.toInt64 v2))))))) (kc2) (ks2)) ∨ (∃ x2, r2 = .inr x2 ∧ 5 ≤ x2 ∧ x2 < N2 ∧ ((G2 x2 = .inr (.inr 0) ∧ K (.inl (some (.int 1))) (N2) G2 (kc2) (ks2)) ∨ (G2 x2 = .inr (.inr 1) ∧ K (.inl (some (.int 2))) (N2) G2 (kc2) (ks2)))))) : cT (h + 1) sM_22 0 [(0, .ref 5), (1, .ref 64)] [] N G K := by
  intro d dc ds P hP
  refine w_mv (pc1 := 1) (st1 := [.ref 64]) rfl rfl rfl ?_
  refine w_mv (pc1 := 2) (st1 := [.int 0, .ref 64]) rfl rfl rfl ?_
  refine w_mv (pc1 := 3) (st1 := [.ref 5, .int 0, .ref 64]) rfl rfl rfl ?_
  obtain ⟨q1a, f1, q1b, hh⟩ := hh
  refine w_call (M' := sM_23) (vals := [.ref 5]) (rest := [.int 0, .ref 64]) (lv' := [(0, .ref 5)]) rfl rfl rfl rfl rfl rfl (cH_rcv (by omega) q1a q1b) rfl rfl rfl ?_
  refine hh _ _ _ _ (fun r2 N2 G2 kc2 ks2 hh => ?_)
  rcases hh with ⟨v2, er2, hh⟩ | ⟨x2, er2, x5, xN, hh⟩
  ·
    subst er2
    refine w_ki (pc1 := 6) rfl ?_
    refine w_mv (pc1 := 7) (st1 := [.long (Int32.toInt64 v2), .int 0, .ref 64]) rfl rfl rfl ?_
    obtain ⟨q3a, g3, q3b, hh⟩ := hh
    refine cw_lst (pc1 := 8) rfl (by decide) q3a q3b (by decide) (by decide) rfl ?_
    refine w_mv (pc1 := 17) (st1 := []) rfl rfl rfl ?_
    refine w_mv (pc1 := 18) (st1 := [.int 0]) rfl rfl rfl ?_
    refine sx_wp.stop rfl rfl rfl ?_
    exact c_acc (hP _ _ _ _ _ hh) (by omega) (by omega)
  ·
    subst er2
    rcases hh with ⟨ex, hh⟩ | hh
    ·
      refine w_kx (j := 0) (h9 := 11) ((cH_get xN).trans (congrArg some ex)) rfl x5 rfl ?_
      refine w_mv (pc1 := 12) (lv1 := [(2, .ref x2), (0, .ref 5), (1, .ref 64)]) (st1 := []) rfl rfl rfl ?_
      refine w_mv (pc1 := 13) (st1 := [.int 1]) rfl rfl rfl ?_
      refine sx_wp.stop rfl rfl rfl ?_
      exact c_acc (hP _ _ _ _ _ hh) (by omega) (by omega)
    obtain ⟨ex, hh⟩ := hh
    refine w_kx (j := 1) (h9 := 14) ((cH_get xN).trans (congrArg some ex)) rfl x5 rfl ?_
    refine w_mv (pc1 := 15) (lv1 := [(2, .ref x2), (0, .ref 5), (1, .ref 64)]) (st1 := []) rfl rfl rfl ?_
    refine w_mv (pc1 := 16) (st1 := [.int 2]) rfl rfl rfl ?_
    refine sx_wp.stop rfl rfl rfl ?_
    exact c_acc (hP _ _ _ _ _ hh) (by omega) (by omega)
set_option maxRecDepth 20000 in
set_option maxHeartbeats 4000000 in
theorem kh_43 {h : Nat} {p1 : Int32} {N : Nat} {G : Nat → sx_C} {K : Option Value ⊕ Nat → Nat → (Nat → sx_C) → Nat → Nat → Prop} (hh : 5 < N ∧ ∃ f1, G 5 = oC 0 f1 ∧ cT (h) sM_44 0 [(0, .ref 5), (1, .int p1)] [] (N) G (fun r2 N2 G2 kc2 ks2 => (r2 = .inl none ∧ K (.inl (some (.int 0))) (N2) G2 (kc2) (ks2)) ∨ (∃ x2, r2 = .inr x2 ∧ 5 ≤ x2 ∧ x2 < N2 ∧ ((G2 x2 = .inr (.inr 0) ∧ K (.inl (some (.int 1))) (N2) G2 (kc2) (ks2)))))) : cT (h + 1) sM_43 0 [(0, .ref 5), (1, .int p1)] [] N G K := by
  intro d dc ds P hP
  refine w_mv (pc1 := 1) (st1 := [.ref 5]) rfl rfl rfl ?_
  refine w_mv (pc1 := 2) (st1 := [.int p1, .ref 5]) rfl rfl rfl ?_
  obtain ⟨q1a, f1, q1b, hh⟩ := hh
  refine w_call (M' := sM_44) (vals := [.ref 5, .int p1]) (rest := []) (lv' := [(0, .ref 5), (1, .int p1)]) rfl rfl rfl rfl rfl rfl (cH_rcv (by omega) q1a q1b) rfl rfl rfl ?_
  refine hh _ _ _ _ (fun r2 N2 G2 kc2 ks2 hh => ?_)
  rcases hh with ⟨er2, hh⟩ | ⟨x2, er2, x5, xN, hh⟩
  ·
    subst er2
    refine w_kv (pc1 := 5) rfl ?_
    refine w_mv (pc1 := 11) (st1 := []) rfl rfl rfl ?_
    refine w_mv (pc1 := 12) (st1 := [.int 0]) rfl rfl rfl ?_
    refine sx_wp.stop rfl rfl rfl ?_
    exact c_acc (hP _ _ _ _ _ hh) (by omega) (by omega)
  ·
    subst er2
    obtain ⟨ex, hh⟩ := hh
    refine w_kx (j := 0) (h9 := 8) ((cH_get xN).trans (congrArg some ex)) rfl x5 rfl ?_
    refine w_mv (pc1 := 9) (lv1 := [(2, .ref x2), (0, .ref 5), (1, .int p1)]) (st1 := []) rfl rfl rfl ?_
    refine w_mv (pc1 := 10) (st1 := [.int 1]) rfl rfl rfl ?_
    refine sx_wp.stop rfl rfl rfl ?_
    exact c_acc (hP _ _ _ _ _ hh) (by omega) (by omega)
set_option maxRecDepth 20000 in
set_option maxHeartbeats 4000000 in
theorem kh_45 {h : Nat} {N : Nat} {G : Nat → sx_C} {K : Option Value ⊕ Nat → Nat → (Nat → sx_C) → Nat → Nat → Prop} (hh : 5 < N ∧ ∃ f1, G 5 = oC 0 f1 ∧ cT (h) sM_46 0 [(0, .ref 5)] [] (N) G (fun r2 N2 G2 kc2 ks2 => (∃ v2 : Int32, r2 = .inl (some (.int v2)) ∧ 64 < N2 ∧ ∃ g3 : Nat → Int64, G2 64 = .inl (3, (1, .inr (.inl g3))) ∧ K (.inl (some (.int 0))) (N2) (va_up G2 64 (.inl (3, (1, .inr (.inl (vp_updL g3 0 (Int32.toInt64 v2))))))) (kc2) (ks2)) ∨ (∃ x2, r2 = .inr x2 ∧ 5 ≤ x2 ∧ x2 < N2 ∧ ((G2 x2 = .inr (.inr 0) ∧ K (.inl (some (.int 1))) (N2) G2 (kc2) (ks2)))))) : cT (h + 1) sM_45 0 [(0, .ref 5), (1, .ref 64)] [] N G K := by
  intro d dc ds P hP
  refine w_mv (pc1 := 1) (st1 := [.ref 64]) rfl rfl rfl ?_
  refine w_mv (pc1 := 2) (st1 := [.int 0, .ref 64]) rfl rfl rfl ?_
  refine w_mv (pc1 := 3) (st1 := [.ref 5, .int 0, .ref 64]) rfl rfl rfl ?_
  obtain ⟨q1a, f1, q1b, hh⟩ := hh
  refine w_call (M' := sM_46) (vals := [.ref 5]) (rest := [.int 0, .ref 64]) (lv' := [(0, .ref 5)]) rfl rfl rfl rfl rfl rfl (cH_rcv (by omega) q1a q1b) rfl rfl rfl ?_
  refine hh _ _ _ _ (fun r2 N2 G2 kc2 ks2 hh => ?_)
  rcases hh with ⟨v2, er2, hh⟩ | ⟨x2, er2, x5, xN, hh⟩
  ·
    subst er2
    refine w_ki (pc1 := 6) rfl ?_
    refine w_mv (pc1 := 7) (st1 := [.long (Int32.toInt64 v2), .int 0, .ref 64]) rfl rfl rfl ?_
    obtain ⟨q3a, g3, q3b, hh⟩ := hh
    refine cw_lst (pc1 := 8) rfl (by decide) q3a q3b (by decide) (by decide) rfl ?_
    refine w_mv (pc1 := 14) (st1 := []) rfl rfl rfl ?_
    refine w_mv (pc1 := 15) (st1 := [.int 0]) rfl rfl rfl ?_
    refine sx_wp.stop rfl rfl rfl ?_
    exact c_acc (hP _ _ _ _ _ hh) (by omega) (by omega)
  ·
    subst er2
    obtain ⟨ex, hh⟩ := hh
    refine w_kx (j := 0) (h9 := 11) ((cH_get xN).trans (congrArg some ex)) rfl x5 rfl ?_
    refine w_mv (pc1 := 12) (lv1 := [(2, .ref x2), (0, .ref 5), (1, .ref 64)]) (st1 := []) rfl rfl rfl ?_
    refine w_mv (pc1 := 13) (st1 := [.int 1]) rfl rfl rfl ?_
    refine sx_wp.stop rfl rfl rfl ?_
    exact c_acc (hP _ _ _ _ _ hh) (by omega) (by omega)
set_option maxRecDepth 20000 in
set_option maxHeartbeats 4000000 in
theorem kh_66 {h : Nat} {p1 : Int32} {N : Nat} {G : Nat → sx_C} {K : Option Value ⊕ Nat → Nat → (Nat → sx_C) → Nat → Nat → Prop} (hh : 5 < N ∧ ∃ f1, G 5 = oC 0 f1 ∧ cT (h) sM_67 0 [(0, .ref 5), (1, .int p1)] [] (N) G (fun r2 N2 G2 kc2 ks2 => (∃ v2 : Int32, r2 = .inl (some (.int v2)) ∧ 64 < N2 ∧ ∃ g3 : Nat → Int64, G2 64 = .inl (3, (1, .inr (.inl g3))) ∧ K (.inl (some (.int 0))) (N2) (va_up G2 64 (.inl (3, (1, .inr (.inl (vp_updL g3 0 (Int32.toInt64 v2))))))) (kc2) (ks2)) ∨ (∃ x2, r2 = .inr x2 ∧ 5 ≤ x2 ∧ x2 < N2 ∧ ((G2 x2 = .inr (.inr 0) ∧ K (.inl (some (.int 1))) (N2) G2 (kc2) (ks2)) ∨ (G2 x2 = .inr (.inr 1) ∧ K (.inl (some (.int 2))) (N2) G2 (kc2) (ks2)) ∨ (G2 x2 = .inr (.inr 2) ∧ K (.inl (some (.int 3))) (N2) G2 (kc2) (ks2)))))) : cT (h + 1) sM_66 0 [(0, .ref 5), (1, .int p1), (2, .ref 64)] [] N G K := by
  intro d dc ds P hP
  refine w_mv (pc1 := 1) (st1 := [.ref 64]) rfl rfl rfl ?_
  refine w_mv (pc1 := 2) (st1 := [.int 0, .ref 64]) rfl rfl rfl ?_
  refine w_mv (pc1 := 3) (st1 := [.ref 5, .int 0, .ref 64]) rfl rfl rfl ?_
  refine w_mv (pc1 := 4) (st1 := [.int p1, .ref 5, .int 0, .ref 64]) rfl rfl rfl ?_
  obtain ⟨q1a, f1, q1b, hh⟩ := hh
  refine w_call (M' := sM_67) (vals := [.ref 5, .int p1]) (rest := [.int 0, .ref 64]) (lv' := [(0, .ref 5), (1, .int p1)]) rfl rfl rfl rfl rfl rfl (cH_rcv (by omega) q1a q1b) rfl rfl rfl ?_
  refine hh _ _ _ _ (fun r2 N2 G2 kc2 ks2 hh => ?_)
  rcases hh with ⟨v2, er2, hh⟩ | ⟨x2, er2, x5, xN, hh⟩
  ·
    subst er2
    refine w_ki (pc1 := 7) rfl ?_
    refine w_mv (pc1 := 8) (st1 := [.long (Int32.toInt64 v2), .int 0, .ref 64]) rfl rfl rfl ?_
    obtain ⟨q3a, g3, q3b, hh⟩ := hh
    refine cw_lst (pc1 := 9) rfl (by decide) q3a q3b (by decide) (by decide) rfl ?_
    refine w_mv (pc1 := 21) (st1 := []) rfl rfl rfl ?_
    refine w_mv (pc1 := 22) (st1 := [.int 0]) rfl rfl rfl ?_
    refine sx_wp.stop rfl rfl rfl ?_
    exact c_acc (hP _ _ _ _ _ hh) (by omega) (by omega)
  ·
    subst er2
    rcases hh with ⟨ex, hh⟩ | hh
    ·
      refine w_kx (j := 0) (h9 := 12) ((cH_get xN).trans (congrArg some ex)) rfl x5 rfl ?_
      refine w_mv (pc1 := 13) (lv1 := [(3, .ref x2), (0, .ref 5), (1, .int p1), (2, .ref 64)]) (st1 := []) rfl rfl rfl ?_
      refine w_mv (pc1 := 14) (st1 := [.int 1]) rfl rfl rfl ?_
      refine sx_wp.stop rfl rfl rfl ?_
      exact c_acc (hP _ _ _ _ _ hh) (by omega) (by omega)
    rcases hh with ⟨ex, hh⟩ | hh
    ·
      refine w_kx (j := 1) (h9 := 15) ((cH_get xN).trans (congrArg some ex)) rfl x5 rfl ?_
      refine w_mv (pc1 := 16) (lv1 := [(3, .ref x2), (0, .ref 5), (1, .int p1), (2, .ref 64)]) (st1 := []) rfl rfl rfl ?_
      refine w_mv (pc1 := 17) (st1 := [.int 2]) rfl rfl rfl ?_
      refine sx_wp.stop rfl rfl rfl ?_
      exact c_acc (hP _ _ _ _ _ hh) (by omega) (by omega)
    obtain ⟨ex, hh⟩ := hh
    refine w_kx (j := 2) (h9 := 18) ((cH_get xN).trans (congrArg some ex)) rfl x5 rfl ?_
    refine w_mv (pc1 := 19) (lv1 := [(3, .ref x2), (0, .ref 5), (1, .int p1), (2, .ref 64)]) (st1 := []) rfl rfl rfl ?_
    refine w_mv (pc1 := 20) (st1 := [.int 3]) rfl rfl rfl ?_
    refine sx_wp.stop rfl rfl rfl ?_
    exact c_acc (hP _ _ _ _ _ hh) (by omega) (by omega)
set_option maxRecDepth 20000 in
set_option maxHeartbeats 4000000 in
theorem kh_101 {h : Nat} {p1 p2 : Int32} {N : Nat} {G : Nat → sx_C} {K : Option Value ⊕ Nat → Nat → (Nat → sx_C) → Nat → Nat → Prop} (hh : 5 < N ∧ ∃ f1, G 5 = oC 0 f1 ∧ cT (h) sM_102 0 [(0, .ref 5), (1, .int p1), (2, .int p2)] [] (N) G (fun r2 N2 G2 kc2 ks2 => (∃ v2 : Int32, r2 = .inl (some (.int v2)) ∧ 64 < N2 ∧ ∃ g3 : Nat → Int64, G2 64 = .inl (3, (1, .inr (.inl g3))) ∧ K (.inl (some (.int 0))) (N2) (va_up G2 64 (.inl (3, (1, .inr (.inl (vp_updL g3 0 (Int32.toInt64 v2))))))) (kc2) (ks2)) ∨ (∃ x2, r2 = .inr x2 ∧ 5 ≤ x2 ∧ x2 < N2 ∧ ((G2 x2 = .inr (.inr 0) ∧ K (.inl (some (.int 1))) (N2) G2 (kc2) (ks2)) ∨ (G2 x2 = .inr (.inr 3) ∧ K (.inl (some (.int 2))) (N2) G2 (kc2) (ks2)))))) : cT (h + 1) sM_101 0 [(0, .ref 5), (1, .int p1), (2, .int p2), (3, .ref 64)] [] N G K := by
  intro d dc ds P hP
  refine w_mv (pc1 := 1) (st1 := [.ref 64]) rfl rfl rfl ?_
  refine w_mv (pc1 := 2) (st1 := [.int 0, .ref 64]) rfl rfl rfl ?_
  refine w_mv (pc1 := 3) (st1 := [.ref 5, .int 0, .ref 64]) rfl rfl rfl ?_
  refine w_mv (pc1 := 4) (st1 := [.int p1, .ref 5, .int 0, .ref 64]) rfl rfl rfl ?_
  refine w_mv (pc1 := 5) (st1 := [.int p2, .int p1, .ref 5, .int 0, .ref 64]) rfl rfl rfl ?_
  obtain ⟨q1a, f1, q1b, hh⟩ := hh
  refine w_call (M' := sM_102) (vals := [.ref 5, .int p1, .int p2]) (rest := [.int 0, .ref 64]) (lv' := [(0, .ref 5), (1, .int p1), (2, .int p2)]) rfl rfl rfl rfl rfl rfl (cH_rcv (by omega) q1a q1b) rfl rfl rfl ?_
  refine hh _ _ _ _ (fun r2 N2 G2 kc2 ks2 hh => ?_)
  rcases hh with ⟨v2, er2, hh⟩ | ⟨x2, er2, x5, xN, hh⟩
  ·
    subst er2
    refine w_ki (pc1 := 8) rfl ?_
    refine w_mv (pc1 := 9) (st1 := [.long (Int32.toInt64 v2), .int 0, .ref 64]) rfl rfl rfl ?_
    obtain ⟨q3a, g3, q3b, hh⟩ := hh
    refine cw_lst (pc1 := 10) rfl (by decide) q3a q3b (by decide) (by decide) rfl ?_
    refine w_mv (pc1 := 21) (st1 := []) rfl rfl rfl ?_
    refine w_mv (pc1 := 22) (st1 := [.int 0]) rfl rfl rfl ?_
    refine sx_wp.stop rfl rfl rfl ?_
    exact c_acc (hP _ _ _ _ _ hh) (by omega) (by omega)
  ·
    subst er2
    rcases hh with ⟨ex, hh⟩ | hh
    ·
      refine w_kx (j := 0) (h9 := 13) ((cH_get xN).trans (congrArg some ex)) rfl x5 rfl ?_
      refine w_mv (pc1 := 15) (lv1 := [(4, .ref x2), (0, .ref 5), (1, .int p1), (2, .int p2), (3, .ref 64)]) (st1 := []) rfl rfl rfl ?_
      refine w_mv (pc1 := 16) (st1 := [.int 1]) rfl rfl rfl ?_
      refine sx_wp.stop rfl rfl rfl ?_
      exact c_acc (hP _ _ _ _ _ hh) (by omega) (by omega)
    obtain ⟨ex, hh⟩ := hh
    refine w_kx (j := 3) (h9 := 17) ((cH_get xN).trans (congrArg some ex)) rfl x5 rfl ?_
    refine w_mv (pc1 := 19) (lv1 := [(4, .ref x2), (0, .ref 5), (1, .int p1), (2, .int p2), (3, .ref 64)]) (st1 := []) rfl rfl rfl ?_
    refine w_mv (pc1 := 20) (st1 := [.int 2]) rfl rfl rfl ?_
    refine sx_wp.stop rfl rfl rfl ?_
    exact c_acc (hP _ _ _ _ _ hh) (by omega) (by omega)
set_option maxRecDepth 20000 in
set_option maxHeartbeats 4000000 in
theorem kh_105 {h : Nat} {p1 : Int32} {N : Nat} {G : Nat → sx_C} {K : Option Value ⊕ Nat → Nat → (Nat → sx_C) → Nat → Nat → Prop} (hh : 5 < N ∧ ∃ f1, G 5 = oC 0 f1 ∧ cT (h) sM_106 0 [(0, .ref 5), (1, .int p1)] [] (N) G (fun r2 N2 G2 kc2 ks2 => (∃ v2 : Int32, r2 = .inl (some (.int v2)) ∧ 64 < N2 ∧ ∃ g3 : Nat → Int64, G2 64 = .inl (3, (1, .inr (.inl g3))) ∧ K (.inl (some (.int 0))) (N2) (va_up G2 64 (.inl (3, (1, .inr (.inl (vp_updL g3 0 (Int32.toInt64 v2))))))) (kc2) (ks2)) ∨ (∃ x2, r2 = .inr x2 ∧ 5 ≤ x2 ∧ x2 < N2 ∧ ((G2 x2 = .inr (.inr 0) ∧ K (.inl (some (.int 1))) (N2) G2 (kc2) (ks2)))))) : cT (h + 1) sM_105 0 [(0, .ref 5), (1, .int p1), (2, .ref 64)] [] N G K := by
  intro d dc ds P hP
  refine w_mv (pc1 := 1) (st1 := [.ref 64]) rfl rfl rfl ?_
  refine w_mv (pc1 := 2) (st1 := [.int 0, .ref 64]) rfl rfl rfl ?_
  refine w_mv (pc1 := 3) (st1 := [.ref 5, .int 0, .ref 64]) rfl rfl rfl ?_
  refine w_mv (pc1 := 4) (st1 := [.int p1, .ref 5, .int 0, .ref 64]) rfl rfl rfl ?_
  obtain ⟨q1a, f1, q1b, hh⟩ := hh
  refine w_call (M' := sM_106) (vals := [.ref 5, .int p1]) (rest := [.int 0, .ref 64]) (lv' := [(0, .ref 5), (1, .int p1)]) rfl rfl rfl rfl rfl rfl (cH_rcv (by omega) q1a q1b) rfl rfl rfl ?_
  refine hh _ _ _ _ (fun r2 N2 G2 kc2 ks2 hh => ?_)
  rcases hh with ⟨v2, er2, hh⟩ | ⟨x2, er2, x5, xN, hh⟩
  ·
    subst er2
    refine w_ki (pc1 := 7) rfl ?_
    refine w_mv (pc1 := 8) (st1 := [.long (Int32.toInt64 v2), .int 0, .ref 64]) rfl rfl rfl ?_
    obtain ⟨q3a, g3, q3b, hh⟩ := hh
    refine cw_lst (pc1 := 9) rfl (by decide) q3a q3b (by decide) (by decide) rfl ?_
    refine w_mv (pc1 := 15) (st1 := []) rfl rfl rfl ?_
    refine w_mv (pc1 := 16) (st1 := [.int 0]) rfl rfl rfl ?_
    refine sx_wp.stop rfl rfl rfl ?_
    exact c_acc (hP _ _ _ _ _ hh) (by omega) (by omega)
  ·
    subst er2
    obtain ⟨ex, hh⟩ := hh
    refine w_kx (j := 0) (h9 := 12) ((cH_get xN).trans (congrArg some ex)) rfl x5 rfl ?_
    refine w_mv (pc1 := 13) (lv1 := [(3, .ref x2), (0, .ref 5), (1, .int p1), (2, .ref 64)]) (st1 := []) rfl rfl rfl ?_
    refine w_mv (pc1 := 14) (st1 := [.int 1]) rfl rfl rfl ?_
    refine sx_wp.stop rfl rfl rfl ?_
    exact c_acc (hP _ _ _ _ _ hh) (by omega) (by omega)
set_option maxRecDepth 20000 in
set_option maxHeartbeats 4000000 in
theorem kl_23 {L : Nat} {xs : Nat → Int32} {i : Int32} {N : Nat} {G : Nat → sx_C} {K : Option Value ⊕ Nat → Nat → (Nat → sx_C) → Nat → Nat → Prop} (hh : 0 < N ∧ G 0 = .inl (0, (L, .inl xs)) ∧ ((((Int32.ofNat L) - 3).toInt < i.toInt → K (.inl (some (.int 1))) (N) G (0) (0)) ∧ (i.toInt ≤ ((Int32.ofNat L) - 3).toInt → 0 < N ∧ G 0 = .inl (0, (L, .inl xs)) ∧ 0 ≤ i.toInt ∧ i.toInt < (L : Nat) ∧ ((((xs i.toNatClampNeg) &&& 7) = 0 → cT (510) sM_law 84 [(4, .int i), (3, .ref 64), (2, .ref 33), (1, .ref 5), (0, .ref 0)] [] (N) G (fun r Nz Gz kcz ksz => K r Nz Gz (kcz) (ksz))) ∧ (((xs i.toNatClampNeg) &&& 7) = 1 → cT (510) sM_law 144 [(4, .int i), (3, .ref 64), (2, .ref 33), (1, .ref 5), (0, .ref 0)] [] (N) G (fun r Nz Gz kcz ksz => K r Nz Gz (kcz) (ksz))) ∧ (((xs i.toNatClampNeg) &&& 7) = 2 → cT (510) sM_law 160 [(4, .int i), (3, .ref 64), (2, .ref 33), (1, .ref 5), (0, .ref 0)] [] (N) G (fun r Nz Gz kcz ksz => K r Nz Gz (kcz) (ksz))) ∧ (((xs i.toNatClampNeg) &&& 7) = 3 → cT (510) sM_law 185 [(4, .int i), (3, .ref 64), (2, .ref 33), (1, .ref 5), (0, .ref 0)] [] (N) G (fun r Nz Gz kcz ksz => K r Nz Gz (kcz) (ksz))) ∧ (((xs i.toNatClampNeg) &&& 7) = 4 → cT (510) sM_law 229 [(4, .int i), (3, .ref 64), (2, .ref 33), (1, .ref 5), (0, .ref 0)] [] (N) G (fun r Nz Gz kcz ksz => K r Nz Gz (kcz) (ksz))) ∧ (((xs i.toNatClampNeg) &&& 7) = 5 → cT (510) sM_law 257 [(4, .int i), (3, .ref 64), (2, .ref 33), (1, .ref 5), (0, .ref 0)] [] (N) G (fun r Nz Gz kcz ksz => K r Nz Gz (kcz) (ksz))) ∧ (((xs i.toNatClampNeg) &&& 7) = 6 → cT (510) sM_law 297 [(4, .int i), (3, .ref 64), (2, .ref 33), (1, .ref 5), (0, .ref 0)] [] (N) G (fun r Nz Gz kcz ksz => K r Nz Gz (kcz) (ksz))) ∧ (((xs i.toNatClampNeg) &&& 7) = 7 → cT (510) sM_law 325 [(4, .int i), (3, .ref 64), (2, .ref 33), (1, .ref 5), (0, .ref 0)] [] (N) G (fun r Nz Gz kcz ksz => K r Nz Gz (kcz) (ksz))) ∧ ((((xs i.toNatClampNeg) &&& 7)).toInt < 0 ∨ 7 < (((xs i.toNatClampNeg) &&& 7)).toInt → cT (510) sM_law 23 [(4, .int (i + 3)), (3, .ref 64), (2, .ref 33), (1, .ref 5), (0, .ref 0)] [] (N) G (fun r Nz Gz kcz ksz => K r Nz Gz (kcz) (ksz))))))) : cT (510) sM_law 23 [(4, .int i), (3, .ref 64), (2, .ref 33), (1, .ref 5), (0, .ref 0)] [] N G K := by
  intro d dc ds P hP
  refine w_mv (pc1 := 25) (st1 := [.int i]) rfl rfl rfl ?_
  refine w_mv (pc1 := 26) (st1 := [.ref 0, .int i]) rfl rfl rfl ?_
  obtain ⟨q1a, q1b, hh⟩ := hh
  refine cw_alen (pc1 := 27) rfl q1a q1b rfl ?_
  refine w_mv (pc1 := 28) (st1 := [.int 3, .int (Int32.ofNat L), .int i]) rfl rfl rfl ?_
  refine w_mv (pc1 := 29) (st1 := [.int ((Int32.ofNat L) - 3), .int i]) rfl rfl rfl ?_
  by_cases h2 : ((Int32.ofNat L) - 3).toInt < i.toInt
  ·
    replace hh := hh.1 h2
    refine w_igt_T (pc1 := 356) rfl rfl h2 ?_
    refine w_mv (pc1 := 357) (st1 := [.int 1]) rfl rfl rfl ?_
    refine sx_wp.stop rfl rfl rfl ?_
    exact c_acc (hP _ _ _ _ _ hh) (by omega) (by omega)
  ·
    replace hh := hh.2 (by omega)
    refine w_igt_F (pc1 := 32) rfl (by decide) rfl (by omega) ?_
    refine w_mv (pc1 := 33) (st1 := [.ref 0]) rfl rfl rfl ?_
    refine w_mv (pc1 := 35) (st1 := [.int i, .ref 0]) rfl rfl rfl ?_
    obtain ⟨q3a, q3b, q3c, q3d, hh⟩ := hh
    refine w_ald (ok := fun ty => ty == .int) (x := 0) (t := 0) (A := (L, .inl xs)) (v := .int (xs i.toNatClampNeg)) (pc1 := 36) rfl rfl rfl (cH_arr q3a q3b) rfl q3c q3d rfl rfl ?_
    refine w_mv (pc1 := 38) (st1 := [.int 7, .int (xs i.toNatClampNeg)]) rfl rfl rfl ?_
    refine w_mv (pc1 := 39) (st1 := [.int ((xs i.toNatClampNeg) &&& 7)]) rfl rfl rfl ?_
    by_cases h4 : ((xs i.toNatClampNeg) &&& 7) = 0
    ·
      replace hh := hh.1 h4
      refine w_top h4 ?_
      refine w_mv (pc1 := 84) (st1 := []) rfl rfl rfl ?_
      exact hh _ _ _ _ (fun r Nz Gz kcz ksz q => c_acc (hP _ _ _ _ _ q) (by omega) (by omega))
    replace hh := hh.2
    by_cases h5 : ((xs i.toNatClampNeg) &&& 7) = 1
    ·
      replace hh := hh.1 h5
      refine w_top h5 ?_
      refine w_mv (pc1 := 144) (st1 := []) rfl rfl rfl ?_
      exact hh _ _ _ _ (fun r Nz Gz kcz ksz q => c_acc (hP _ _ _ _ _ q) (by omega) (by omega))
    replace hh := hh.2
    by_cases h6 : ((xs i.toNatClampNeg) &&& 7) = 2
    ·
      replace hh := hh.1 h6
      refine w_top h6 ?_
      refine w_mv (pc1 := 160) (st1 := []) rfl rfl rfl ?_
      exact hh _ _ _ _ (fun r Nz Gz kcz ksz q => c_acc (hP _ _ _ _ _ q) (by omega) (by omega))
    replace hh := hh.2
    by_cases h7 : ((xs i.toNatClampNeg) &&& 7) = 3
    ·
      replace hh := hh.1 h7
      refine w_top h7 ?_
      refine w_mv (pc1 := 185) (st1 := []) rfl rfl rfl ?_
      exact hh _ _ _ _ (fun r Nz Gz kcz ksz q => c_acc (hP _ _ _ _ _ q) (by omega) (by omega))
    replace hh := hh.2
    by_cases h8 : ((xs i.toNatClampNeg) &&& 7) = 4
    ·
      replace hh := hh.1 h8
      refine w_top h8 ?_
      refine w_mv (pc1 := 229) (st1 := []) rfl rfl rfl ?_
      exact hh _ _ _ _ (fun r Nz Gz kcz ksz q => c_acc (hP _ _ _ _ _ q) (by omega) (by omega))
    replace hh := hh.2
    by_cases h9 : ((xs i.toNatClampNeg) &&& 7) = 5
    ·
      replace hh := hh.1 h9
      refine w_top h9 ?_
      refine w_mv (pc1 := 257) (st1 := []) rfl rfl rfl ?_
      exact hh _ _ _ _ (fun r Nz Gz kcz ksz q => c_acc (hP _ _ _ _ _ q) (by omega) (by omega))
    replace hh := hh.2
    by_cases h10 : ((xs i.toNatClampNeg) &&& 7) = 6
    ·
      replace hh := hh.1 h10
      refine w_top h10 ?_
      refine w_mv (pc1 := 297) (st1 := []) rfl rfl rfl ?_
      exact hh _ _ _ _ (fun r Nz Gz kcz ksz q => c_acc (hP _ _ _ _ _ q) (by omega) (by omega))
    replace hh := hh.2
    by_cases h11 : ((xs i.toNatClampNeg) &&& 7) = 7
    ·
      replace hh := hh.1 h11
      refine w_top h11 ?_
      refine w_mv (pc1 := 325) (st1 := []) rfl rfl rfl ?_
      exact hh _ _ _ _ (fun r Nz Gz kcz ksz q => c_acc (hP _ _ _ _ _ q) (by omega) (by omega))
    replace hh := hh.2
    have hsw := c_sw0_7 h4 h5 h6 h7 h8 h9 h10 h11
    replace hh := hh hsw
    refine w_swO (pc1 := 350) rfl rfl hsw ?_
    refine w_mv (pc1 := 353) (lv1 := [(4, .int (i + 3)), (3, .ref 64), (2, .ref 33), (1, .ref 5), (0, .ref 0)]) (st1 := []) rfl rfl rfl ?_
    refine w_mv (pc1 := 23) (st1 := []) rfl rfl rfl ?_
    refine w_wk (l1 := [(4, .int (i + 3)), (3, .ref 64), (2, .ref 33), (1, .ref 5), (0, .ref 0)]) rfl ⟨rfl, rfl, rfl, rfl, rfl, trivial⟩ ?_
    exact hh _ _ _ _ (fun r Nz Gz kcz ksz q => c_acc (hP _ _ _ _ _ q) (by omega) (by omega))
set_option maxRecDepth 20000 in
set_option maxHeartbeats 4000000 in
theorem kl_c0 {L : Nat} {xs : Nat → Int32} {i : Int32} {N : Nat} {G : Nat → sx_C} {K : Option Value ⊕ Nat → Nat → (Nat → sx_C) → Nat → Nat → Prop} (hh : 0 < N ∧ G 0 = .inl (0, (L, .inl xs)) ∧ 0 ≤ (i + 1).toInt ∧ (i + 1).toInt < (L : Nat) ∧ 0 < N ∧ G 0 = .inl (0, (L, .inl xs)) ∧ 0 ≤ (i + 2).toInt ∧ (i + 2).toInt < (L : Nat) ∧ cT (509) sM_18 0 [(0, .ref 5), (1, .long (((Int32.toInt64 (xs (i + 1).toNatClampNeg)) <<< (Int32.toInt64 32 &&& 63)) ||| ((Int32.toInt64 (xs (i + 2).toNatClampNeg)) &&& 4294967295))), (3, .ref 64)] [] (N) G (fun r3 N3 G3 kc3 ks3 => ∃ v3 : Int32, r3 = .inl (some (.int v3)) ∧ 0 < N3 ∧ G3 0 = .inl (0, (L, .inl xs)) ∧ 0 ≤ (i + 1).toInt ∧ (i + 1).toInt < (L : Nat) ∧ 0 < N3 ∧ G3 0 = .inl (0, (L, .inl xs)) ∧ 0 ≤ (i + 2).toInt ∧ (i + 2).toInt < (L : Nat) ∧ 33 < N3 ∧ ∃ f6, G3 33 = oC 12 f6 ∧ cT (509) sM_110 0 [(0, .ref 33), (1, .long (((Int32.toInt64 (xs (i + 1).toNatClampNeg)) <<< (Int32.toInt64 32 &&& 63)) ||| ((Int32.toInt64 (xs (i + 2).toNatClampNeg)) &&& 4294967295)))] [] (N3) G3 (fun r7 N7 G7 kc7 ks7 => ∃ v7 : Int32, r7 = .inl (some (.int v7)) ∧ cT (510) sM_law 23 [(4, .int (i + 3)), (3, .ref 64), (2, .ref 33), (1, .ref 5), (0, .ref 0)] [] (N7) G7 (fun r Nz Gz kcz ksz => K r Nz Gz (kc3 + kc7 + kcz) (ks3 + ks7 + ksz))))) : cT (510) sM_law 84 [(4, .int i), (3, .ref 64), (2, .ref 33), (1, .ref 5), (0, .ref 0)] [] N G K := by
  intro d dc ds P hP
  refine w_mv (pc1 := 85) (st1 := [.ref 5]) rfl rfl rfl ?_
  refine w_mv (pc1 := 86) (st1 := [.ref 0, .ref 5]) rfl rfl rfl ?_
  refine w_mv (pc1 := 88) (st1 := [.int i, .ref 0, .ref 5]) rfl rfl rfl ?_
  refine w_mv (pc1 := 89) (st1 := [.int 1, .int i, .ref 0, .ref 5]) rfl rfl rfl ?_
  refine w_mv (pc1 := 90) (st1 := [.int (i + 1), .ref 0, .ref 5]) rfl rfl rfl ?_
  obtain ⟨q1a, q1b, q1c, q1d, hh⟩ := hh
  refine w_ald (ok := fun ty => ty == .int) (x := 0) (t := 0) (A := (L, .inl xs)) (v := .int (xs (i + 1).toNatClampNeg)) (pc1 := 91) rfl rfl rfl (cH_arr q1a q1b) rfl q1c q1d rfl rfl ?_
  refine w_mv (pc1 := 92) (st1 := [.long (Int32.toInt64 (xs (i + 1).toNatClampNeg)), .ref 5]) rfl rfl rfl ?_
  refine w_mv (pc1 := 94) (st1 := [.int 32, .long (Int32.toInt64 (xs (i + 1).toNatClampNeg)), .ref 5]) rfl rfl rfl ?_
  refine w_mv (pc1 := 95) (st1 := [.long ((Int32.toInt64 (xs (i + 1).toNatClampNeg)) <<< (Int32.toInt64 32 &&& 63)), .ref 5]) rfl rfl rfl ?_
  refine w_mv (pc1 := 96) (st1 := [.ref 0, .long ((Int32.toInt64 (xs (i + 1).toNatClampNeg)) <<< (Int32.toInt64 32 &&& 63)), .ref 5]) rfl rfl rfl ?_
  refine w_mv (pc1 := 98) (st1 := [.int i, .ref 0, .long ((Int32.toInt64 (xs (i + 1).toNatClampNeg)) <<< (Int32.toInt64 32 &&& 63)), .ref 5]) rfl rfl rfl ?_
  refine w_mv (pc1 := 99) (st1 := [.int 2, .int i, .ref 0, .long ((Int32.toInt64 (xs (i + 1).toNatClampNeg)) <<< (Int32.toInt64 32 &&& 63)), .ref 5]) rfl rfl rfl ?_
  refine w_mv (pc1 := 100) (st1 := [.int (i + 2), .ref 0, .long ((Int32.toInt64 (xs (i + 1).toNatClampNeg)) <<< (Int32.toInt64 32 &&& 63)), .ref 5]) rfl rfl rfl ?_
  obtain ⟨q2a, q2b, q2c, q2d, hh⟩ := hh
  refine w_ald (ok := fun ty => ty == .int) (x := 0) (t := 0) (A := (L, .inl xs)) (v := .int (xs (i + 2).toNatClampNeg)) (pc1 := 101) rfl rfl rfl (cH_arr q2a q2b) rfl q2c q2d rfl rfl ?_
  refine w_mv (pc1 := 102) (st1 := [.long (Int32.toInt64 (xs (i + 2).toNatClampNeg)), .long ((Int32.toInt64 (xs (i + 1).toNatClampNeg)) <<< (Int32.toInt64 32 &&& 63)), .ref 5]) rfl rfl rfl ?_
  refine w_mv (pc1 := 105) (st1 := [.long 4294967295, .long (Int32.toInt64 (xs (i + 2).toNatClampNeg)), .long ((Int32.toInt64 (xs (i + 1).toNatClampNeg)) <<< (Int32.toInt64 32 &&& 63)), .ref 5]) rfl rfl rfl ?_
  refine w_mv (pc1 := 106) (st1 := [.long ((Int32.toInt64 (xs (i + 2).toNatClampNeg)) &&& 4294967295), .long ((Int32.toInt64 (xs (i + 1).toNatClampNeg)) <<< (Int32.toInt64 32 &&& 63)), .ref 5]) rfl rfl rfl ?_
  refine w_mv (pc1 := 107) (st1 := [.long (((Int32.toInt64 (xs (i + 1).toNatClampNeg)) <<< (Int32.toInt64 32 &&& 63)) ||| ((Int32.toInt64 (xs (i + 2).toNatClampNeg)) &&& 4294967295)), .ref 5]) rfl rfl rfl ?_
  refine w_mv (pc1 := 108) (st1 := [.ref 64, .long (((Int32.toInt64 (xs (i + 1).toNatClampNeg)) <<< (Int32.toInt64 32 &&& 63)) ||| ((Int32.toInt64 (xs (i + 2).toNatClampNeg)) &&& 4294967295)), .ref 5]) rfl rfl rfl ?_
  refine w_call (M' := sM_18) (vals := [.ref 5, .long (((Int32.toInt64 (xs (i + 1).toNatClampNeg)) <<< (Int32.toInt64 32 &&& 63)) ||| ((Int32.toInt64 (xs (i + 2).toNatClampNeg)) &&& 4294967295)), .ref 64]) (rest := []) (lv' := [(0, .ref 5), (1, .long (((Int32.toInt64 (xs (i + 1).toNatClampNeg)) <<< (Int32.toInt64 32 &&& 63)) ||| ((Int32.toInt64 (xs (i + 2).toNatClampNeg)) &&& 4294967295))), (3, .ref 64)]) rfl rfl rfl rfl rfl rfl rfl rfl rfl rfl ?_
  refine hh _ _ _ _ (fun r3 N3 G3 kc3 ks3 hh => ?_)
  obtain ⟨v3, er3, hh⟩ := hh
  subst er3
  refine w_ki (pc1 := 111) rfl ?_
  refine w_mv (pc1 := 113) (lv1 := [(5, .int v3), (4, .int i), (3, .ref 64), (2, .ref 33), (1, .ref 5), (0, .ref 0)]) (st1 := []) rfl rfl rfl ?_
  refine w_mv (pc1 := 114) (st1 := [.ref 33]) rfl rfl rfl ?_
  refine w_mv (pc1 := 115) (st1 := [.ref 0, .ref 33]) rfl rfl rfl ?_
  refine w_mv (pc1 := 117) (st1 := [.int i, .ref 0, .ref 33]) rfl rfl rfl ?_
  refine w_mv (pc1 := 118) (st1 := [.int 1, .int i, .ref 0, .ref 33]) rfl rfl rfl ?_
  refine w_mv (pc1 := 119) (st1 := [.int (i + 1), .ref 0, .ref 33]) rfl rfl rfl ?_
  obtain ⟨q4a, q4b, q4c, q4d, hh⟩ := hh
  refine w_ald (ok := fun ty => ty == .int) (x := 0) (t := 0) (A := (L, .inl xs)) (v := .int (xs (i + 1).toNatClampNeg)) (pc1 := 120) rfl rfl rfl (cH_arr q4a q4b) rfl q4c q4d rfl rfl ?_
  refine w_mv (pc1 := 121) (st1 := [.long (Int32.toInt64 (xs (i + 1).toNatClampNeg)), .ref 33]) rfl rfl rfl ?_
  refine w_mv (pc1 := 123) (st1 := [.int 32, .long (Int32.toInt64 (xs (i + 1).toNatClampNeg)), .ref 33]) rfl rfl rfl ?_
  refine w_mv (pc1 := 124) (st1 := [.long ((Int32.toInt64 (xs (i + 1).toNatClampNeg)) <<< (Int32.toInt64 32 &&& 63)), .ref 33]) rfl rfl rfl ?_
  refine w_mv (pc1 := 125) (st1 := [.ref 0, .long ((Int32.toInt64 (xs (i + 1).toNatClampNeg)) <<< (Int32.toInt64 32 &&& 63)), .ref 33]) rfl rfl rfl ?_
  refine w_mv (pc1 := 127) (st1 := [.int i, .ref 0, .long ((Int32.toInt64 (xs (i + 1).toNatClampNeg)) <<< (Int32.toInt64 32 &&& 63)), .ref 33]) rfl rfl rfl ?_
  refine w_mv (pc1 := 128) (st1 := [.int 2, .int i, .ref 0, .long ((Int32.toInt64 (xs (i + 1).toNatClampNeg)) <<< (Int32.toInt64 32 &&& 63)), .ref 33]) rfl rfl rfl ?_
  refine w_mv (pc1 := 129) (st1 := [.int (i + 2), .ref 0, .long ((Int32.toInt64 (xs (i + 1).toNatClampNeg)) <<< (Int32.toInt64 32 &&& 63)), .ref 33]) rfl rfl rfl ?_
  obtain ⟨q5a, q5b, q5c, q5d, hh⟩ := hh
  refine w_ald (ok := fun ty => ty == .int) (x := 0) (t := 0) (A := (L, .inl xs)) (v := .int (xs (i + 2).toNatClampNeg)) (pc1 := 130) rfl rfl rfl (cH_arr q5a q5b) rfl q5c q5d rfl rfl ?_
  refine w_mv (pc1 := 131) (st1 := [.long (Int32.toInt64 (xs (i + 2).toNatClampNeg)), .long ((Int32.toInt64 (xs (i + 1).toNatClampNeg)) <<< (Int32.toInt64 32 &&& 63)), .ref 33]) rfl rfl rfl ?_
  refine w_mv (pc1 := 134) (st1 := [.long 4294967295, .long (Int32.toInt64 (xs (i + 2).toNatClampNeg)), .long ((Int32.toInt64 (xs (i + 1).toNatClampNeg)) <<< (Int32.toInt64 32 &&& 63)), .ref 33]) rfl rfl rfl ?_
  refine w_mv (pc1 := 135) (st1 := [.long ((Int32.toInt64 (xs (i + 2).toNatClampNeg)) &&& 4294967295), .long ((Int32.toInt64 (xs (i + 1).toNatClampNeg)) <<< (Int32.toInt64 32 &&& 63)), .ref 33]) rfl rfl rfl ?_
  refine w_mv (pc1 := 136) (st1 := [.long (((Int32.toInt64 (xs (i + 1).toNatClampNeg)) <<< (Int32.toInt64 32 &&& 63)) ||| ((Int32.toInt64 (xs (i + 2).toNatClampNeg)) &&& 4294967295)), .ref 33]) rfl rfl rfl ?_
  obtain ⟨q6a, f6, q6b, hh⟩ := hh
  refine w_call (M' := sM_110) (vals := [.ref 33, .long (((Int32.toInt64 (xs (i + 1).toNatClampNeg)) <<< (Int32.toInt64 32 &&& 63)) ||| ((Int32.toInt64 (xs (i + 2).toNatClampNeg)) &&& 4294967295))]) (rest := []) (lv' := [(0, .ref 33), (1, .long (((Int32.toInt64 (xs (i + 1).toNatClampNeg)) <<< (Int32.toInt64 32 &&& 63)) ||| ((Int32.toInt64 (xs (i + 2).toNatClampNeg)) &&& 4294967295)))]) rfl rfl rfl rfl rfl rfl (cH_rcv (by omega) q6a q6b) rfl rfl rfl ?_
  refine hh _ _ _ _ (fun r7 N7 G7 kc7 ks7 hh => ?_)
  obtain ⟨v7, er7, hh⟩ := hh
  subst er7
  refine w_ki (pc1 := 139) rfl ?_
  refine w_mv (pc1 := 141) (lv1 := [(6, .int v7), (5, .int v3), (4, .int i), (3, .ref 64), (2, .ref 33), (1, .ref 5), (0, .ref 0)]) (st1 := []) rfl rfl rfl ?_
  refine w_mv (pc1 := 350) (st1 := []) rfl rfl rfl ?_
  refine w_mv (pc1 := 353) (lv1 := [(4, .int (i + 3)), (6, .int v7), (5, .int v3), (3, .ref 64), (2, .ref 33), (1, .ref 5), (0, .ref 0)]) (st1 := []) rfl rfl rfl ?_
  refine w_mv (pc1 := 23) (st1 := []) rfl rfl rfl ?_
  refine w_wk (l1 := [(4, .int (i + 3)), (3, .ref 64), (2, .ref 33), (1, .ref 5), (0, .ref 0)]) rfl ⟨rfl, rfl, rfl, rfl, rfl, trivial⟩ ?_
  exact hh _ _ _ _ (fun r Nz Gz kcz ksz q => c_acc (hP _ _ _ _ _ q) (by omega) (by omega))
set_option maxRecDepth 20000 in
set_option maxHeartbeats 4000000 in
theorem kl_c1 {L : Nat} {xs : Nat → Int32} {i : Int32} {N : Nat} {G : Nat → sx_C} {K : Option Value ⊕ Nat → Nat → (Nat → sx_C) → Nat → Nat → Prop} (hh : cT (509) sM_22 0 [(0, .ref 5), (1, .ref 64)] [] (N) G (fun r1 N1 G1 kc1 ks1 => ∃ v1 : Int32, r1 = .inl (some (.int v1)) ∧ 33 < N1 ∧ ∃ f2, G1 33 = oC 12 f2 ∧ cT (509) sM_114 0 [(0, .ref 33)] [] (N1) G1 (fun r3 N3 G3 kc3 ks3 => ∃ v3 : Int32, r3 = .inl (some (.int v3)) ∧ cT (510) sM_law 23 [(4, .int (i + 3)), (3, .ref 64), (2, .ref 33), (1, .ref 5), (0, .ref 0)] [] (N3) G3 (fun r Nz Gz kcz ksz => K r Nz Gz (kc1 + kc3 + kcz) (ks1 + ks3 + ksz))))) : cT (510) sM_law 144 [(4, .int i), (3, .ref 64), (2, .ref 33), (1, .ref 5), (0, .ref 0)] [] N G K := by
  intro d dc ds P hP
  refine w_mv (pc1 := 145) (st1 := [.ref 5]) rfl rfl rfl ?_
  refine w_mv (pc1 := 146) (st1 := [.ref 64, .ref 5]) rfl rfl rfl ?_
  refine w_call (M' := sM_22) (vals := [.ref 5, .ref 64]) (rest := []) (lv' := [(0, .ref 5), (1, .ref 64)]) rfl rfl rfl rfl rfl rfl rfl rfl rfl rfl ?_
  refine hh _ _ _ _ (fun r1 N1 G1 kc1 ks1 hh => ?_)
  obtain ⟨v1, er1, hh⟩ := hh
  subst er1
  refine w_ki (pc1 := 149) rfl ?_
  refine w_mv (pc1 := 151) (lv1 := [(5, .int v1), (4, .int i), (3, .ref 64), (2, .ref 33), (1, .ref 5), (0, .ref 0)]) (st1 := []) rfl rfl rfl ?_
  refine w_mv (pc1 := 152) (st1 := [.ref 33]) rfl rfl rfl ?_
  obtain ⟨q2a, f2, q2b, hh⟩ := hh
  refine w_call (M' := sM_114) (vals := [.ref 33]) (rest := []) (lv' := [(0, .ref 33)]) rfl rfl rfl rfl rfl rfl (cH_rcv (by omega) q2a q2b) rfl rfl rfl ?_
  refine hh _ _ _ _ (fun r3 N3 G3 kc3 ks3 hh => ?_)
  obtain ⟨v3, er3, hh⟩ := hh
  subst er3
  refine w_ki (pc1 := 155) rfl ?_
  refine w_mv (pc1 := 157) (lv1 := [(6, .int v3), (5, .int v1), (4, .int i), (3, .ref 64), (2, .ref 33), (1, .ref 5), (0, .ref 0)]) (st1 := []) rfl rfl rfl ?_
  refine w_mv (pc1 := 350) (st1 := []) rfl rfl rfl ?_
  refine w_mv (pc1 := 353) (lv1 := [(4, .int (i + 3)), (6, .int v3), (5, .int v1), (3, .ref 64), (2, .ref 33), (1, .ref 5), (0, .ref 0)]) (st1 := []) rfl rfl rfl ?_
  refine w_mv (pc1 := 23) (st1 := []) rfl rfl rfl ?_
  refine w_wk (l1 := [(4, .int (i + 3)), (3, .ref 64), (2, .ref 33), (1, .ref 5), (0, .ref 0)]) rfl ⟨rfl, rfl, rfl, rfl, rfl, trivial⟩ ?_
  exact hh _ _ _ _ (fun r Nz Gz kcz ksz q => c_acc (hP _ _ _ _ _ q) (by omega) (by omega))
set_option maxRecDepth 20000 in
set_option maxHeartbeats 4000000 in
theorem kl_c2 {L : Nat} {xs : Nat → Int32} {i : Int32} {N : Nat} {G : Nat → sx_C} {K : Option Value ⊕ Nat → Nat → (Nat → sx_C) → Nat → Nat → Prop} (hh : 0 < N ∧ G 0 = .inl (0, (L, .inl xs)) ∧ 0 ≤ (i + 1).toInt ∧ (i + 1).toInt < (L : Nat) ∧ cT (509) sM_43 0 [(0, .ref 5), (1, .int (xs (i + 1).toNatClampNeg))] [] (N) G (fun r2 N2 G2 kc2 ks2 => ∃ v2 : Int32, r2 = .inl (some (.int v2)) ∧ 0 < N2 ∧ G2 0 = .inl (0, (L, .inl xs)) ∧ 0 ≤ (i + 1).toInt ∧ (i + 1).toInt < (L : Nat) ∧ 33 < N2 ∧ ∃ f4, G2 33 = oC 12 f4 ∧ cT (509) sM_120 0 [(0, .ref 33), (1, .int (xs (i + 1).toNatClampNeg))] [] (N2) G2 (fun r5 N5 G5 kc5 ks5 => r5 = .inl none ∧ cT (510) sM_law 23 [(4, .int (i + 3)), (3, .ref 64), (2, .ref 33), (1, .ref 5), (0, .ref 0)] [] (N5) G5 (fun r Nz Gz kcz ksz => K r Nz Gz (kc2 + kc5 + kcz) (ks2 + ks5 + ksz))))) : cT (510) sM_law 160 [(4, .int i), (3, .ref 64), (2, .ref 33), (1, .ref 5), (0, .ref 0)] [] N G K := by
  intro d dc ds P hP
  refine w_mv (pc1 := 161) (st1 := [.ref 5]) rfl rfl rfl ?_
  refine w_mv (pc1 := 162) (st1 := [.ref 0, .ref 5]) rfl rfl rfl ?_
  refine w_mv (pc1 := 164) (st1 := [.int i, .ref 0, .ref 5]) rfl rfl rfl ?_
  refine w_mv (pc1 := 165) (st1 := [.int 1, .int i, .ref 0, .ref 5]) rfl rfl rfl ?_
  refine w_mv (pc1 := 166) (st1 := [.int (i + 1), .ref 0, .ref 5]) rfl rfl rfl ?_
  obtain ⟨q1a, q1b, q1c, q1d, hh⟩ := hh
  refine w_ald (ok := fun ty => ty == .int) (x := 0) (t := 0) (A := (L, .inl xs)) (v := .int (xs (i + 1).toNatClampNeg)) (pc1 := 167) rfl rfl rfl (cH_arr q1a q1b) rfl q1c q1d rfl rfl ?_
  refine w_call (M' := sM_43) (vals := [.ref 5, .int (xs (i + 1).toNatClampNeg)]) (rest := []) (lv' := [(0, .ref 5), (1, .int (xs (i + 1).toNatClampNeg))]) rfl rfl rfl rfl rfl rfl rfl rfl rfl rfl ?_
  refine hh _ _ _ _ (fun r2 N2 G2 kc2 ks2 hh => ?_)
  obtain ⟨v2, er2, hh⟩ := hh
  subst er2
  refine w_ki (pc1 := 170) rfl ?_
  refine w_mv (pc1 := 172) (lv1 := [(5, .int v2), (4, .int i), (3, .ref 64), (2, .ref 33), (1, .ref 5), (0, .ref 0)]) (st1 := []) rfl rfl rfl ?_
  refine w_mv (pc1 := 173) (st1 := [.ref 33]) rfl rfl rfl ?_
  refine w_mv (pc1 := 174) (st1 := [.ref 0, .ref 33]) rfl rfl rfl ?_
  refine w_mv (pc1 := 176) (st1 := [.int i, .ref 0, .ref 33]) rfl rfl rfl ?_
  refine w_mv (pc1 := 177) (st1 := [.int 1, .int i, .ref 0, .ref 33]) rfl rfl rfl ?_
  refine w_mv (pc1 := 178) (st1 := [.int (i + 1), .ref 0, .ref 33]) rfl rfl rfl ?_
  obtain ⟨q3a, q3b, q3c, q3d, hh⟩ := hh
  refine w_ald (ok := fun ty => ty == .int) (x := 0) (t := 0) (A := (L, .inl xs)) (v := .int (xs (i + 1).toNatClampNeg)) (pc1 := 179) rfl rfl rfl (cH_arr q3a q3b) rfl q3c q3d rfl rfl ?_
  obtain ⟨q4a, f4, q4b, hh⟩ := hh
  refine w_call (M' := sM_120) (vals := [.ref 33, .int (xs (i + 1).toNatClampNeg)]) (rest := []) (lv' := [(0, .ref 33), (1, .int (xs (i + 1).toNatClampNeg))]) rfl rfl rfl rfl rfl rfl (cH_rcv (by omega) q4a q4b) rfl rfl rfl ?_
  refine hh _ _ _ _ (fun r5 N5 G5 kc5 ks5 hh => ?_)
  obtain ⟨er5, hh⟩ := hh
  subst er5
  refine w_kv (pc1 := 182) rfl ?_
  refine w_mv (pc1 := 350) (st1 := []) rfl rfl rfl ?_
  refine w_mv (pc1 := 353) (lv1 := [(4, .int (i + 3)), (5, .int v2), (3, .ref 64), (2, .ref 33), (1, .ref 5), (0, .ref 0)]) (st1 := []) rfl rfl rfl ?_
  refine w_mv (pc1 := 23) (st1 := []) rfl rfl rfl ?_
  refine w_wk (l1 := [(4, .int (i + 3)), (3, .ref 64), (2, .ref 33), (1, .ref 5), (0, .ref 0)]) rfl ⟨rfl, rfl, rfl, rfl, rfl, trivial⟩ ?_
  exact hh _ _ _ _ (fun r Nz Gz kcz ksz q => c_acc (hP _ _ _ _ _ q) (by omega) (by omega))
set_option maxRecDepth 20000 in
set_option maxHeartbeats 4000000 in
theorem kl_c3 {L : Nat} {xs : Nat → Int32} {i : Int32} {N : Nat} {G : Nat → sx_C} {K : Option Value ⊕ Nat → Nat → (Nat → sx_C) → Nat → Nat → Prop} (hh : cT (509) sM_45 0 [(0, .ref 5), (1, .ref 64)] [] (N) G (fun r1 N1 G1 kc1 ks1 => ∃ v1 : Int32, r1 = .inl (some (.int v1)) ∧ 33 < N1 ∧ ∃ f2, G1 33 = oC 12 f2 ∧ cT (509) sM_121 0 [(0, .ref 33)] [] (N1) G1 (fun r3 N3 G3 kc3 ks3 => ∃ v3 : Int32, r3 = .inl (some (.int v3)) ∧ 33 < N3 ∧ ∃ f4, G3 33 = oC 12 f4 ∧ cT (509) sM_109 0 [(0, .ref 33)] [] (N3) G3 (fun r5 N5 G5 kc5 ks5 => ∃ v5 : Int32, r5 = .inl (some (.int v5)) ∧ ((v5.toInt = v1.toInt → ((v1.toInt ≠ 0 → cT (510) sM_law 23 [(4, .int (i + 3)), (3, .ref 64), (2, .ref 33), (1, .ref 5), (0, .ref 0)] [] (N5) G5 (fun r Nz Gz kcz ksz => K r Nz Gz (kc1 + kc3 + kc5 + kcz) (ks1 + ks3 + ks5 + ksz))) ∧ (v1.toInt = 0 → 64 < N5 ∧ ∃ g8 : Nat → Int64, G5 64 = .inl (3, (1, .inr (.inl g8))) ∧ (((lg_cmp (g8 0) (Int32.toInt64 v3)).toInt = 0 → cT (510) sM_law 23 [(4, .int (i + 3)), (3, .ref 64), (2, .ref 33), (1, .ref 5), (0, .ref 0)] [] (N5) G5 (fun r Nz Gz kcz ksz => K r Nz Gz (kc1 + kc3 + kc5 + kcz) (ks1 + ks3 + ks5 + ksz))) ∧ ((lg_cmp (g8 0) (Int32.toInt64 v3)).toInt ≠ 0 → K (.inl (some (.int 0))) (N5) G5 (kc1 + kc3 + kc5) (ks1 + ks3 + ks5)))))) ∧ (v5.toInt ≠ v1.toInt → K (.inl (some (.int 0))) (N5) G5 (kc1 + kc3 + kc5) (ks1 + ks3 + ks5))))))) : cT (510) sM_law 185 [(4, .int i), (3, .ref 64), (2, .ref 33), (1, .ref 5), (0, .ref 0)] [] N G K := by
  intro d dc ds P hP
  refine w_mv (pc1 := 186) (st1 := [.ref 5]) rfl rfl rfl ?_
  refine w_mv (pc1 := 187) (st1 := [.ref 64, .ref 5]) rfl rfl rfl ?_
  refine w_call (M' := sM_45) (vals := [.ref 5, .ref 64]) (rest := []) (lv' := [(0, .ref 5), (1, .ref 64)]) rfl rfl rfl rfl rfl rfl rfl rfl rfl rfl ?_
  refine hh _ _ _ _ (fun r1 N1 G1 kc1 ks1 hh => ?_)
  obtain ⟨v1, er1, hh⟩ := hh
  subst er1
  refine w_ki (pc1 := 190) rfl ?_
  refine w_mv (pc1 := 192) (lv1 := [(5, .int v1), (4, .int i), (3, .ref 64), (2, .ref 33), (1, .ref 5), (0, .ref 0)]) (st1 := []) rfl rfl rfl ?_
  refine w_mv (pc1 := 193) (st1 := [.ref 33]) rfl rfl rfl ?_
  obtain ⟨q2a, f2, q2b, hh⟩ := hh
  refine w_call (M' := sM_121) (vals := [.ref 33]) (rest := []) (lv' := [(0, .ref 33)]) rfl rfl rfl rfl rfl rfl (cH_rcv (by omega) q2a q2b) rfl rfl rfl ?_
  refine hh _ _ _ _ (fun r3 N3 G3 kc3 ks3 hh => ?_)
  obtain ⟨v3, er3, hh⟩ := hh
  subst er3
  refine w_ki (pc1 := 196) rfl ?_
  refine w_mv (pc1 := 198) (lv1 := [(6, .int v3), (5, .int v1), (4, .int i), (3, .ref 64), (2, .ref 33), (1, .ref 5), (0, .ref 0)]) (st1 := []) rfl rfl rfl ?_
  refine w_mv (pc1 := 199) (st1 := [.ref 33]) rfl rfl rfl ?_
  obtain ⟨q4a, f4, q4b, hh⟩ := hh
  refine w_call (M' := sM_109) (vals := [.ref 33]) (rest := []) (lv' := [(0, .ref 33)]) rfl rfl rfl rfl rfl rfl (cH_rcv (by omega) q4a q4b) rfl rfl rfl ?_
  refine hh _ _ _ _ (fun r5 N5 G5 kc5 ks5 hh => ?_)
  obtain ⟨v5, er5, hh⟩ := hh
  subst er5
  refine w_ki (pc1 := 202) rfl ?_
  refine w_mv (pc1 := 204) (st1 := [.int v1, .int v5]) rfl rfl rfl ?_
  by_cases h6 : v5.toInt = v1.toInt
  ·
    replace hh := hh.1 h6
    refine w_ieq_T (pc1 := 209) rfl rfl h6 ?_
    refine w_mv (pc1 := 211) (st1 := [.int v1]) rfl rfl rfl ?_
    by_cases h7 : v1.toInt ≠ 0
    ·
      replace hh := hh.1 h7
      refine w_zne_T (pc1 := 226) rfl rfl h7 ?_
      refine w_mv (pc1 := 350) (st1 := []) rfl rfl rfl ?_
      refine w_mv (pc1 := 353) (lv1 := [(4, .int (i + 3)), (6, .int v3), (5, .int v1), (3, .ref 64), (2, .ref 33), (1, .ref 5), (0, .ref 0)]) (st1 := []) rfl rfl rfl ?_
      refine w_mv (pc1 := 23) (st1 := []) rfl rfl rfl ?_
      refine w_wk (l1 := [(4, .int (i + 3)), (3, .ref 64), (2, .ref 33), (1, .ref 5), (0, .ref 0)]) rfl ⟨rfl, rfl, rfl, rfl, rfl, trivial⟩ ?_
      exact hh _ _ _ _ (fun r Nz Gz kcz ksz q => c_acc (hP _ _ _ _ _ q) (by omega) (by omega))
    ·
      replace hh := hh.2 (by omega)
      refine w_zne_F (pc1 := 214) rfl (by decide) rfl (by omega) ?_
      refine w_mv (pc1 := 215) (st1 := [.ref 64]) rfl rfl rfl ?_
      refine w_mv (pc1 := 216) (st1 := [.int 0, .ref 64]) rfl rfl rfl ?_
      obtain ⟨q8a, g8, q8b, hh⟩ := hh
      refine w_ald (ok := fun ty => ty == .long) (x := 64) (t := 3) (A := (1, .inr (.inl g8))) (v := .long (g8 0)) (pc1 := 217) rfl rfl rfl (cH_arr q8a q8b) rfl (by decide) (show Int32.toInt 0 < ((1 : Nat) : Int) by decide) rfl rfl ?_
      refine w_mv (pc1 := 219) (st1 := [.int v3, .long (g8 0)]) rfl rfl rfl ?_
      refine w_mv (pc1 := 220) (st1 := [.long (Int32.toInt64 v3), .long (g8 0)]) rfl rfl rfl ?_
      refine w_mv (pc1 := 221) (st1 := [.int (lg_cmp (g8 0) (Int32.toInt64 v3))]) rfl rfl rfl ?_
      by_cases h9 : (lg_cmp (g8 0) (Int32.toInt64 v3)).toInt = 0
      ·
        replace hh := hh.1 h9
        refine w_zeq_T (pc1 := 226) rfl rfl h9 ?_
        refine w_mv (pc1 := 350) (st1 := []) rfl rfl rfl ?_
        refine w_mv (pc1 := 353) (lv1 := [(4, .int (i + 3)), (6, .int v3), (5, .int v1), (3, .ref 64), (2, .ref 33), (1, .ref 5), (0, .ref 0)]) (st1 := []) rfl rfl rfl ?_
        refine w_mv (pc1 := 23) (st1 := []) rfl rfl rfl ?_
        refine w_wk (l1 := [(4, .int (i + 3)), (3, .ref 64), (2, .ref 33), (1, .ref 5), (0, .ref 0)]) rfl ⟨rfl, rfl, rfl, rfl, rfl, trivial⟩ ?_
        exact hh _ _ _ _ (fun r Nz Gz kcz ksz q => c_acc (hP _ _ _ _ _ q) (by omega) (by omega))
      ·
        replace hh := hh.2 (by omega)
        refine w_zeq_F (pc1 := 224) rfl (by decide) rfl (by omega) ?_
        refine w_mv (pc1 := 225) (st1 := [.int 0]) rfl rfl rfl ?_
        refine sx_wp.stop rfl rfl rfl ?_
        exact c_acc (hP _ _ _ _ _ hh) (by omega) (by omega)
  ·
    replace hh := hh.2 (by omega)
    refine w_ieq_F (pc1 := 207) rfl (by decide) rfl (by omega) ?_
    refine w_mv (pc1 := 208) (st1 := [.int 0]) rfl rfl rfl ?_
    refine sx_wp.stop rfl rfl rfl ?_
    exact c_acc (hP _ _ _ _ _ hh) (by omega) (by omega)
set_option maxRecDepth 20000 in
set_option maxHeartbeats 4000000 in
theorem kl_c4 {L : Nat} {xs : Nat → Int32} {i : Int32} {N : Nat} {G : Nat → sx_C} {K : Option Value ⊕ Nat → Nat → (Nat → sx_C) → Nat → Nat → Prop} (hh : 0 < N ∧ G 0 = .inl (0, (L, .inl xs)) ∧ 0 ≤ (i + 1).toInt ∧ (i + 1).toInt < (L : Nat) ∧ cT (509) sM_66 0 [(0, .ref 5), (1, .int (xs (i + 1).toNatClampNeg)), (2, .ref 64)] [] (N) G (fun r2 N2 G2 kc2 ks2 => ∃ v2 : Int32, r2 = .inl (some (.int v2)) ∧ 0 < N2 ∧ G2 0 = .inl (0, (L, .inl xs)) ∧ 0 ≤ (i + 1).toInt ∧ (i + 1).toInt < (L : Nat) ∧ 33 < N2 ∧ ∃ f4, G2 33 = oC 12 f4 ∧ cT (509) sM_133 0 [(0, .ref 33), (1, .int (xs (i + 1).toNatClampNeg))] [] (N2) G2 (fun r5 N5 G5 kc5 ks5 => ∃ v5 : Int32, r5 = .inl (some (.int v5)) ∧ cT (510) sM_law 23 [(4, .int (i + 3)), (3, .ref 64), (2, .ref 33), (1, .ref 5), (0, .ref 0)] [] (N5) G5 (fun r Nz Gz kcz ksz => K r Nz Gz (kc2 + kc5 + kcz) (ks2 + ks5 + ksz))))) : cT (510) sM_law 229 [(4, .int i), (3, .ref 64), (2, .ref 33), (1, .ref 5), (0, .ref 0)] [] N G K := by
  intro d dc ds P hP
  refine w_mv (pc1 := 230) (st1 := [.ref 5]) rfl rfl rfl ?_
  refine w_mv (pc1 := 231) (st1 := [.ref 0, .ref 5]) rfl rfl rfl ?_
  refine w_mv (pc1 := 233) (st1 := [.int i, .ref 0, .ref 5]) rfl rfl rfl ?_
  refine w_mv (pc1 := 234) (st1 := [.int 1, .int i, .ref 0, .ref 5]) rfl rfl rfl ?_
  refine w_mv (pc1 := 235) (st1 := [.int (i + 1), .ref 0, .ref 5]) rfl rfl rfl ?_
  obtain ⟨q1a, q1b, q1c, q1d, hh⟩ := hh
  refine w_ald (ok := fun ty => ty == .int) (x := 0) (t := 0) (A := (L, .inl xs)) (v := .int (xs (i + 1).toNatClampNeg)) (pc1 := 236) rfl rfl rfl (cH_arr q1a q1b) rfl q1c q1d rfl rfl ?_
  refine w_mv (pc1 := 237) (st1 := [.ref 64, .int (xs (i + 1).toNatClampNeg), .ref 5]) rfl rfl rfl ?_
  refine w_call (M' := sM_66) (vals := [.ref 5, .int (xs (i + 1).toNatClampNeg), .ref 64]) (rest := []) (lv' := [(0, .ref 5), (1, .int (xs (i + 1).toNatClampNeg)), (2, .ref 64)]) rfl rfl rfl rfl rfl rfl rfl rfl rfl rfl ?_
  refine hh _ _ _ _ (fun r2 N2 G2 kc2 ks2 hh => ?_)
  obtain ⟨v2, er2, hh⟩ := hh
  subst er2
  refine w_ki (pc1 := 240) rfl ?_
  refine w_mv (pc1 := 242) (lv1 := [(5, .int v2), (4, .int i), (3, .ref 64), (2, .ref 33), (1, .ref 5), (0, .ref 0)]) (st1 := []) rfl rfl rfl ?_
  refine w_mv (pc1 := 243) (st1 := [.ref 33]) rfl rfl rfl ?_
  refine w_mv (pc1 := 244) (st1 := [.ref 0, .ref 33]) rfl rfl rfl ?_
  refine w_mv (pc1 := 246) (st1 := [.int i, .ref 0, .ref 33]) rfl rfl rfl ?_
  refine w_mv (pc1 := 247) (st1 := [.int 1, .int i, .ref 0, .ref 33]) rfl rfl rfl ?_
  refine w_mv (pc1 := 248) (st1 := [.int (i + 1), .ref 0, .ref 33]) rfl rfl rfl ?_
  obtain ⟨q3a, q3b, q3c, q3d, hh⟩ := hh
  refine w_ald (ok := fun ty => ty == .int) (x := 0) (t := 0) (A := (L, .inl xs)) (v := .int (xs (i + 1).toNatClampNeg)) (pc1 := 249) rfl rfl rfl (cH_arr q3a q3b) rfl q3c q3d rfl rfl ?_
  obtain ⟨q4a, f4, q4b, hh⟩ := hh
  refine w_call (M' := sM_133) (vals := [.ref 33, .int (xs (i + 1).toNatClampNeg)]) (rest := []) (lv' := [(0, .ref 33), (1, .int (xs (i + 1).toNatClampNeg))]) rfl rfl rfl rfl rfl rfl (cH_rcv (by omega) q4a q4b) rfl rfl rfl ?_
  refine hh _ _ _ _ (fun r5 N5 G5 kc5 ks5 hh => ?_)
  obtain ⟨v5, er5, hh⟩ := hh
  subst er5
  refine w_ki (pc1 := 252) rfl ?_
  refine w_mv (pc1 := 254) (lv1 := [(6, .int v5), (5, .int v2), (4, .int i), (3, .ref 64), (2, .ref 33), (1, .ref 5), (0, .ref 0)]) (st1 := []) rfl rfl rfl ?_
  refine w_mv (pc1 := 350) (st1 := []) rfl rfl rfl ?_
  refine w_mv (pc1 := 353) (lv1 := [(4, .int (i + 3)), (6, .int v5), (5, .int v2), (3, .ref 64), (2, .ref 33), (1, .ref 5), (0, .ref 0)]) (st1 := []) rfl rfl rfl ?_
  refine w_mv (pc1 := 23) (st1 := []) rfl rfl rfl ?_
  refine w_wk (l1 := [(4, .int (i + 3)), (3, .ref 64), (2, .ref 33), (1, .ref 5), (0, .ref 0)]) rfl ⟨rfl, rfl, rfl, rfl, rfl, trivial⟩ ?_
  exact hh _ _ _ _ (fun r Nz Gz kcz ksz q => c_acc (hP _ _ _ _ _ q) (by omega) (by omega))
set_option maxRecDepth 20000 in
set_option maxHeartbeats 4000000 in
theorem kl_c5 {L : Nat} {xs : Nat → Int32} {i : Int32} {N : Nat} {G : Nat → sx_C} {K : Option Value ⊕ Nat → Nat → (Nat → sx_C) → Nat → Nat → Prop} (hh : 0 < N ∧ G 0 = .inl (0, (L, .inl xs)) ∧ 0 ≤ (i + 1).toInt ∧ (i + 1).toInt < (L : Nat) ∧ 0 < N ∧ G 0 = .inl (0, (L, .inl xs)) ∧ 0 ≤ (i + 2).toInt ∧ (i + 2).toInt < (L : Nat) ∧ cT (509) sM_101 0 [(0, .ref 5), (1, .int (xs (i + 1).toNatClampNeg)), (2, .int (xs (i + 2).toNatClampNeg)), (3, .ref 64)] [] (N) G (fun r3 N3 G3 kc3 ks3 => ∃ v3 : Int32, r3 = .inl (some (.int v3)) ∧ 0 < N3 ∧ G3 0 = .inl (0, (L, .inl xs)) ∧ 0 ≤ (i + 1).toInt ∧ (i + 1).toInt < (L : Nat) ∧ 0 < N3 ∧ G3 0 = .inl (0, (L, .inl xs)) ∧ 0 ≤ (i + 2).toInt ∧ (i + 2).toInt < (L : Nat) ∧ 33 < N3 ∧ ∃ f6, G3 33 = oC 12 f6 ∧ cT (509) sM_154 0 [(0, .ref 33), (1, .int (xs (i + 1).toNatClampNeg)), (2, .int (xs (i + 2).toNatClampNeg))] [] (N3) G3 (fun r7 N7 G7 kc7 ks7 => ∃ v7 : Int32, r7 = .inl (some (.int v7)) ∧ cT (510) sM_law 23 [(4, .int (i + 3)), (3, .ref 64), (2, .ref 33), (1, .ref 5), (0, .ref 0)] [] (N7) G7 (fun r Nz Gz kcz ksz => K r Nz Gz (kc3 + kc7 + kcz) (ks3 + ks7 + ksz))))) : cT (510) sM_law 257 [(4, .int i), (3, .ref 64), (2, .ref 33), (1, .ref 5), (0, .ref 0)] [] N G K := by
  intro d dc ds P hP
  refine w_mv (pc1 := 258) (st1 := [.ref 5]) rfl rfl rfl ?_
  refine w_mv (pc1 := 259) (st1 := [.ref 0, .ref 5]) rfl rfl rfl ?_
  refine w_mv (pc1 := 261) (st1 := [.int i, .ref 0, .ref 5]) rfl rfl rfl ?_
  refine w_mv (pc1 := 262) (st1 := [.int 1, .int i, .ref 0, .ref 5]) rfl rfl rfl ?_
  refine w_mv (pc1 := 263) (st1 := [.int (i + 1), .ref 0, .ref 5]) rfl rfl rfl ?_
  obtain ⟨q1a, q1b, q1c, q1d, hh⟩ := hh
  refine w_ald (ok := fun ty => ty == .int) (x := 0) (t := 0) (A := (L, .inl xs)) (v := .int (xs (i + 1).toNatClampNeg)) (pc1 := 264) rfl rfl rfl (cH_arr q1a q1b) rfl q1c q1d rfl rfl ?_
  refine w_mv (pc1 := 265) (st1 := [.ref 0, .int (xs (i + 1).toNatClampNeg), .ref 5]) rfl rfl rfl ?_
  refine w_mv (pc1 := 267) (st1 := [.int i, .ref 0, .int (xs (i + 1).toNatClampNeg), .ref 5]) rfl rfl rfl ?_
  refine w_mv (pc1 := 268) (st1 := [.int 2, .int i, .ref 0, .int (xs (i + 1).toNatClampNeg), .ref 5]) rfl rfl rfl ?_
  refine w_mv (pc1 := 269) (st1 := [.int (i + 2), .ref 0, .int (xs (i + 1).toNatClampNeg), .ref 5]) rfl rfl rfl ?_
  obtain ⟨q2a, q2b, q2c, q2d, hh⟩ := hh
  refine w_ald (ok := fun ty => ty == .int) (x := 0) (t := 0) (A := (L, .inl xs)) (v := .int (xs (i + 2).toNatClampNeg)) (pc1 := 270) rfl rfl rfl (cH_arr q2a q2b) rfl q2c q2d rfl rfl ?_
  refine w_mv (pc1 := 271) (st1 := [.ref 64, .int (xs (i + 2).toNatClampNeg), .int (xs (i + 1).toNatClampNeg), .ref 5]) rfl rfl rfl ?_
  refine w_call (M' := sM_101) (vals := [.ref 5, .int (xs (i + 1).toNatClampNeg), .int (xs (i + 2).toNatClampNeg), .ref 64]) (rest := []) (lv' := [(0, .ref 5), (1, .int (xs (i + 1).toNatClampNeg)), (2, .int (xs (i + 2).toNatClampNeg)), (3, .ref 64)]) rfl rfl rfl rfl rfl rfl rfl rfl rfl rfl ?_
  refine hh _ _ _ _ (fun r3 N3 G3 kc3 ks3 hh => ?_)
  obtain ⟨v3, er3, hh⟩ := hh
  subst er3
  refine w_ki (pc1 := 274) rfl ?_
  refine w_mv (pc1 := 276) (lv1 := [(5, .int v3), (4, .int i), (3, .ref 64), (2, .ref 33), (1, .ref 5), (0, .ref 0)]) (st1 := []) rfl rfl rfl ?_
  refine w_mv (pc1 := 277) (st1 := [.ref 33]) rfl rfl rfl ?_
  refine w_mv (pc1 := 278) (st1 := [.ref 0, .ref 33]) rfl rfl rfl ?_
  refine w_mv (pc1 := 280) (st1 := [.int i, .ref 0, .ref 33]) rfl rfl rfl ?_
  refine w_mv (pc1 := 281) (st1 := [.int 1, .int i, .ref 0, .ref 33]) rfl rfl rfl ?_
  refine w_mv (pc1 := 282) (st1 := [.int (i + 1), .ref 0, .ref 33]) rfl rfl rfl ?_
  obtain ⟨q4a, q4b, q4c, q4d, hh⟩ := hh
  refine w_ald (ok := fun ty => ty == .int) (x := 0) (t := 0) (A := (L, .inl xs)) (v := .int (xs (i + 1).toNatClampNeg)) (pc1 := 283) rfl rfl rfl (cH_arr q4a q4b) rfl q4c q4d rfl rfl ?_
  refine w_mv (pc1 := 284) (st1 := [.ref 0, .int (xs (i + 1).toNatClampNeg), .ref 33]) rfl rfl rfl ?_
  refine w_mv (pc1 := 286) (st1 := [.int i, .ref 0, .int (xs (i + 1).toNatClampNeg), .ref 33]) rfl rfl rfl ?_
  refine w_mv (pc1 := 287) (st1 := [.int 2, .int i, .ref 0, .int (xs (i + 1).toNatClampNeg), .ref 33]) rfl rfl rfl ?_
  refine w_mv (pc1 := 288) (st1 := [.int (i + 2), .ref 0, .int (xs (i + 1).toNatClampNeg), .ref 33]) rfl rfl rfl ?_
  obtain ⟨q5a, q5b, q5c, q5d, hh⟩ := hh
  refine w_ald (ok := fun ty => ty == .int) (x := 0) (t := 0) (A := (L, .inl xs)) (v := .int (xs (i + 2).toNatClampNeg)) (pc1 := 289) rfl rfl rfl (cH_arr q5a q5b) rfl q5c q5d rfl rfl ?_
  obtain ⟨q6a, f6, q6b, hh⟩ := hh
  refine w_call (M' := sM_154) (vals := [.ref 33, .int (xs (i + 1).toNatClampNeg), .int (xs (i + 2).toNatClampNeg)]) (rest := []) (lv' := [(0, .ref 33), (1, .int (xs (i + 1).toNatClampNeg)), (2, .int (xs (i + 2).toNatClampNeg))]) rfl rfl rfl rfl rfl rfl (cH_rcv (by omega) q6a q6b) rfl rfl rfl ?_
  refine hh _ _ _ _ (fun r7 N7 G7 kc7 ks7 hh => ?_)
  obtain ⟨v7, er7, hh⟩ := hh
  subst er7
  refine w_ki (pc1 := 292) rfl ?_
  refine w_mv (pc1 := 294) (lv1 := [(6, .int v7), (5, .int v3), (4, .int i), (3, .ref 64), (2, .ref 33), (1, .ref 5), (0, .ref 0)]) (st1 := []) rfl rfl rfl ?_
  refine w_mv (pc1 := 350) (st1 := []) rfl rfl rfl ?_
  refine w_mv (pc1 := 353) (lv1 := [(4, .int (i + 3)), (6, .int v7), (5, .int v3), (3, .ref 64), (2, .ref 33), (1, .ref 5), (0, .ref 0)]) (st1 := []) rfl rfl rfl ?_
  refine w_mv (pc1 := 23) (st1 := []) rfl rfl rfl ?_
  refine w_wk (l1 := [(4, .int (i + 3)), (3, .ref 64), (2, .ref 33), (1, .ref 5), (0, .ref 0)]) rfl ⟨rfl, rfl, rfl, rfl, rfl, trivial⟩ ?_
  exact hh _ _ _ _ (fun r Nz Gz kcz ksz q => c_acc (hP _ _ _ _ _ q) (by omega) (by omega))
set_option maxRecDepth 20000 in
set_option maxHeartbeats 4000000 in
theorem kl_c6 {L : Nat} {xs : Nat → Int32} {i : Int32} {N : Nat} {G : Nat → sx_C} {K : Option Value ⊕ Nat → Nat → (Nat → sx_C) → Nat → Nat → Prop} (hh : 0 < N ∧ G 0 = .inl (0, (L, .inl xs)) ∧ 0 ≤ (i + 1).toInt ∧ (i + 1).toInt < (L : Nat) ∧ cT (509) sM_105 0 [(0, .ref 5), (1, .int (xs (i + 1).toNatClampNeg)), (2, .ref 64)] [] (N) G (fun r2 N2 G2 kc2 ks2 => ∃ v2 : Int32, r2 = .inl (some (.int v2)) ∧ 0 < N2 ∧ G2 0 = .inl (0, (L, .inl xs)) ∧ 0 ≤ (i + 1).toInt ∧ (i + 1).toInt < (L : Nat) ∧ 33 < N2 ∧ ∃ f4, G2 33 = oC 12 f4 ∧ cT (509) sM_158 0 [(0, .ref 33), (1, .int (xs (i + 1).toNatClampNeg))] [] (N2) G2 (fun r5 N5 G5 kc5 ks5 => ∃ v5 : Int32, r5 = .inl (some (.int v5)) ∧ cT (510) sM_law 23 [(4, .int (i + 3)), (3, .ref 64), (2, .ref 33), (1, .ref 5), (0, .ref 0)] [] (N5) G5 (fun r Nz Gz kcz ksz => K r Nz Gz (kc2 + kc5 + kcz) (ks2 + ks5 + ksz))))) : cT (510) sM_law 297 [(4, .int i), (3, .ref 64), (2, .ref 33), (1, .ref 5), (0, .ref 0)] [] N G K := by
  intro d dc ds P hP
  refine w_mv (pc1 := 298) (st1 := [.ref 5]) rfl rfl rfl ?_
  refine w_mv (pc1 := 299) (st1 := [.ref 0, .ref 5]) rfl rfl rfl ?_
  refine w_mv (pc1 := 301) (st1 := [.int i, .ref 0, .ref 5]) rfl rfl rfl ?_
  refine w_mv (pc1 := 302) (st1 := [.int 1, .int i, .ref 0, .ref 5]) rfl rfl rfl ?_
  refine w_mv (pc1 := 303) (st1 := [.int (i + 1), .ref 0, .ref 5]) rfl rfl rfl ?_
  obtain ⟨q1a, q1b, q1c, q1d, hh⟩ := hh
  refine w_ald (ok := fun ty => ty == .int) (x := 0) (t := 0) (A := (L, .inl xs)) (v := .int (xs (i + 1).toNatClampNeg)) (pc1 := 304) rfl rfl rfl (cH_arr q1a q1b) rfl q1c q1d rfl rfl ?_
  refine w_mv (pc1 := 305) (st1 := [.ref 64, .int (xs (i + 1).toNatClampNeg), .ref 5]) rfl rfl rfl ?_
  refine w_call (M' := sM_105) (vals := [.ref 5, .int (xs (i + 1).toNatClampNeg), .ref 64]) (rest := []) (lv' := [(0, .ref 5), (1, .int (xs (i + 1).toNatClampNeg)), (2, .ref 64)]) rfl rfl rfl rfl rfl rfl rfl rfl rfl rfl ?_
  refine hh _ _ _ _ (fun r2 N2 G2 kc2 ks2 hh => ?_)
  obtain ⟨v2, er2, hh⟩ := hh
  subst er2
  refine w_ki (pc1 := 308) rfl ?_
  refine w_mv (pc1 := 310) (lv1 := [(5, .int v2), (4, .int i), (3, .ref 64), (2, .ref 33), (1, .ref 5), (0, .ref 0)]) (st1 := []) rfl rfl rfl ?_
  refine w_mv (pc1 := 311) (st1 := [.ref 33]) rfl rfl rfl ?_
  refine w_mv (pc1 := 312) (st1 := [.ref 0, .ref 33]) rfl rfl rfl ?_
  refine w_mv (pc1 := 314) (st1 := [.int i, .ref 0, .ref 33]) rfl rfl rfl ?_
  refine w_mv (pc1 := 315) (st1 := [.int 1, .int i, .ref 0, .ref 33]) rfl rfl rfl ?_
  refine w_mv (pc1 := 316) (st1 := [.int (i + 1), .ref 0, .ref 33]) rfl rfl rfl ?_
  obtain ⟨q3a, q3b, q3c, q3d, hh⟩ := hh
  refine w_ald (ok := fun ty => ty == .int) (x := 0) (t := 0) (A := (L, .inl xs)) (v := .int (xs (i + 1).toNatClampNeg)) (pc1 := 317) rfl rfl rfl (cH_arr q3a q3b) rfl q3c q3d rfl rfl ?_
  obtain ⟨q4a, f4, q4b, hh⟩ := hh
  refine w_call (M' := sM_158) (vals := [.ref 33, .int (xs (i + 1).toNatClampNeg)]) (rest := []) (lv' := [(0, .ref 33), (1, .int (xs (i + 1).toNatClampNeg))]) rfl rfl rfl rfl rfl rfl (cH_rcv (by omega) q4a q4b) rfl rfl rfl ?_
  refine hh _ _ _ _ (fun r5 N5 G5 kc5 ks5 hh => ?_)
  obtain ⟨v5, er5, hh⟩ := hh
  subst er5
  refine w_ki (pc1 := 320) rfl ?_
  refine w_mv (pc1 := 322) (lv1 := [(6, .int v5), (5, .int v2), (4, .int i), (3, .ref 64), (2, .ref 33), (1, .ref 5), (0, .ref 0)]) (st1 := []) rfl rfl rfl ?_
  refine w_mv (pc1 := 350) (st1 := []) rfl rfl rfl ?_
  refine w_mv (pc1 := 353) (lv1 := [(4, .int (i + 3)), (6, .int v5), (5, .int v2), (3, .ref 64), (2, .ref 33), (1, .ref 5), (0, .ref 0)]) (st1 := []) rfl rfl rfl ?_
  refine w_mv (pc1 := 23) (st1 := []) rfl rfl rfl ?_
  refine w_wk (l1 := [(4, .int (i + 3)), (3, .ref 64), (2, .ref 33), (1, .ref 5), (0, .ref 0)]) rfl ⟨rfl, rfl, rfl, rfl, rfl, trivial⟩ ?_
  exact hh _ _ _ _ (fun r Nz Gz kcz ksz q => c_acc (hP _ _ _ _ _ q) (by omega) (by omega))
set_option maxRecDepth 20000 in
set_option maxHeartbeats 4000000 in
theorem kl_c7 {L : Nat} {xs : Nat → Int32} {i : Int32} {N : Nat} {G : Nat → sx_C} {K : Option Value ⊕ Nat → Nat → (Nat → sx_C) → Nat → Nat → Prop} (hh : 0 < N ∧ G 0 = .inl (0, (L, .inl xs)) ∧ 0 ≤ (i + 1).toInt ∧ (i + 1).toInt < (L : Nat) ∧ 5 < N ∧ ∃ f2, G 5 = oC 0 f2 ∧ cT (509) sM_7 0 [(0, .ref 5), (1, .int (xs (i + 1).toNatClampNeg))] [] (N) G (fun r3 N3 G3 kc3 ks3 => ∃ v3 : Int32, r3 = .inl (some (.int v3)) ∧ 0 < N3 ∧ G3 0 = .inl (0, (L, .inl xs)) ∧ 0 ≤ (i + 1).toInt ∧ (i + 1).toInt < (L : Nat) ∧ 33 < N3 ∧ ∃ f5, G3 33 = oC 12 f5 ∧ cT (509) sM_159 0 [(0, .ref 33), (1, .int (xs (i + 1).toNatClampNeg))] [] (N3) G3 (fun r6 N6 G6 kc6 ks6 => ∃ v6 : Int32, r6 = .inl (some (.int v6)) ∧ cT (510) sM_law 23 [(4, .int (i + 3)), (3, .ref 64), (2, .ref 33), (1, .ref 5), (0, .ref 0)] [] (N6) G6 (fun r Nz Gz kcz ksz => K r Nz Gz (kc3 + kc6 + kcz) (ks3 + ks6 + ksz))))) : cT (510) sM_law 325 [(4, .int i), (3, .ref 64), (2, .ref 33), (1, .ref 5), (0, .ref 0)] [] N G K := by
  intro d dc ds P hP
  refine w_mv (pc1 := 326) (st1 := [.ref 5]) rfl rfl rfl ?_
  refine w_mv (pc1 := 327) (st1 := [.ref 0, .ref 5]) rfl rfl rfl ?_
  refine w_mv (pc1 := 329) (st1 := [.int i, .ref 0, .ref 5]) rfl rfl rfl ?_
  refine w_mv (pc1 := 330) (st1 := [.int 1, .int i, .ref 0, .ref 5]) rfl rfl rfl ?_
  refine w_mv (pc1 := 331) (st1 := [.int (i + 1), .ref 0, .ref 5]) rfl rfl rfl ?_
  obtain ⟨q1a, q1b, q1c, q1d, hh⟩ := hh
  refine w_ald (ok := fun ty => ty == .int) (x := 0) (t := 0) (A := (L, .inl xs)) (v := .int (xs (i + 1).toNatClampNeg)) (pc1 := 332) rfl rfl rfl (cH_arr q1a q1b) rfl q1c q1d rfl rfl ?_
  obtain ⟨q2a, f2, q2b, hh⟩ := hh
  refine w_call (M' := sM_7) (vals := [.ref 5, .int (xs (i + 1).toNatClampNeg)]) (rest := []) (lv' := [(0, .ref 5), (1, .int (xs (i + 1).toNatClampNeg))]) rfl rfl rfl rfl rfl rfl (cH_rcv (by omega) q2a q2b) rfl rfl rfl ?_
  refine hh _ _ _ _ (fun r3 N3 G3 kc3 ks3 hh => ?_)
  obtain ⟨v3, er3, hh⟩ := hh
  subst er3
  refine w_ki (pc1 := 335) rfl ?_
  refine w_mv (pc1 := 336) (st1 := []) rfl rfl rfl ?_
  refine w_mv (pc1 := 337) (st1 := [.ref 33]) rfl rfl rfl ?_
  refine w_mv (pc1 := 338) (st1 := [.ref 0, .ref 33]) rfl rfl rfl ?_
  refine w_mv (pc1 := 340) (st1 := [.int i, .ref 0, .ref 33]) rfl rfl rfl ?_
  refine w_mv (pc1 := 341) (st1 := [.int 1, .int i, .ref 0, .ref 33]) rfl rfl rfl ?_
  refine w_mv (pc1 := 342) (st1 := [.int (i + 1), .ref 0, .ref 33]) rfl rfl rfl ?_
  obtain ⟨q4a, q4b, q4c, q4d, hh⟩ := hh
  refine w_ald (ok := fun ty => ty == .int) (x := 0) (t := 0) (A := (L, .inl xs)) (v := .int (xs (i + 1).toNatClampNeg)) (pc1 := 343) rfl rfl rfl (cH_arr q4a q4b) rfl q4c q4d rfl rfl ?_
  obtain ⟨q5a, f5, q5b, hh⟩ := hh
  refine w_call (M' := sM_159) (vals := [.ref 33, .int (xs (i + 1).toNatClampNeg)]) (rest := []) (lv' := [(0, .ref 33), (1, .int (xs (i + 1).toNatClampNeg))]) rfl rfl rfl rfl rfl rfl (cH_rcv (by omega) q5a q5b) rfl rfl rfl ?_
  refine hh _ _ _ _ (fun r6 N6 G6 kc6 ks6 hh => ?_)
  obtain ⟨v6, er6, hh⟩ := hh
  subst er6
  refine w_ki (pc1 := 346) rfl ?_
  refine w_mv (pc1 := 347) (st1 := []) rfl rfl rfl ?_
  refine w_mv (pc1 := 350) (st1 := []) rfl rfl rfl ?_
  refine w_mv (pc1 := 353) (lv1 := [(4, .int (i + 3)), (3, .ref 64), (2, .ref 33), (1, .ref 5), (0, .ref 0)]) (st1 := []) rfl rfl rfl ?_
  refine w_mv (pc1 := 23) (st1 := []) rfl rfl rfl ?_
  refine w_wk (l1 := [(4, .int (i + 3)), (3, .ref 64), (2, .ref 33), (1, .ref 5), (0, .ref 0)]) rfl ⟨rfl, rfl, rfl, rfl, rfl, trivial⟩ ?_
  exact hh _ _ _ _ (fun r Nz Gz kcz ksz q => c_acc (hP _ _ _ _ _ q) (by omega) (by omega))
