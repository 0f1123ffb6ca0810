/-! TYPE ON A FRESH PAIR (by program: wip/sx/gen_p1_type.py) -/
abbrev s_kont := sx_kont 2 s_ft s_df s_tf s_cst s_zs s_ks s_mt
def ty_e (xs : Nat → Int32) : Int64 := (Int32.toInt64 (xs 1) <<< (Int32.toInt64 32 &&& 63)) ||| (Int32.toInt64 (xs 2) &&& 4294967295)
def ty_b (e : Int64) (s : Int32) : Int32 := Int64.toInt32 (UInt64.toInt64 (Int64.toUInt64 e >>> (Int64.toUInt64 (Int32.toInt64 s) &&& Int64.toUInt64 63))) &&& 255
def ty_sh (j : Nat) : Int32 := match j with
  | 0 => 56
  | 1 => 48
  | 2 => 40
  | 3 => 32
  | 4 => 24
  | 5 => 16
  | 6 => 8
  | _ => 0
abbrev ty_bad (e : Int64) (s : Int32) : Prop := (ty_b e s).toInt ≠ 0 ∧ ((ty_b e s).toInt < 33 ∨ 126 < (ty_b e s).toInt)
def ty_cnt (e : Int64) : Nat → Int32
  | 0 => 0
  | j + 1 => if (ty_b e (ty_sh j)).toInt = 0 then ty_cnt e j else ty_cnt e j + 1
theorem ty_cnt_z {e : Int64} {j : Nat} (h : (ty_b e (ty_sh j)).toInt = 0) : ty_cnt e (j + 1) = ty_cnt e j := if_pos h
theorem ty_cnt_s {e : Int64} {j : Nat} (h : (ty_b e (ty_sh j)).toInt ≠ 0) : ty_cnt e (j + 1) = ty_cnt e j + 1 := if_neg h
theorem ty_succ {x : Int32} (h0 : 0 ≤ x.toInt) (h1 : x.toInt ≤ 1000) : (x + 1).toInt = x.toInt + 1 := by
  rw [Int32.toInt_add, show (1 : Int32).toInt = 1 from by decide]
  exact Int.bmod_eq_of_le (by omega) (by omega)
theorem ty_cnt_rng (e : Int64) : ∀ j : Nat, j ≤ 8 → 0 ≤ (ty_cnt e j).toInt ∧ (ty_cnt e j).toInt ≤ (j : Int) := by
  intro j
  induction j with
  | zero => intro _; exact ⟨show (0 : Int) ≤ (0 : Int32).toInt by decide, show (0 : Int32).toInt ≤ 0 by decide⟩
  | succ j ih =>
    intro hj
    obtain ⟨i1, i2⟩ := ih (by omega)
    by_cases h : (ty_b e (ty_sh j)).toInt = 0
    · rw [ty_cnt_z h]
      omega
    · rw [ty_cnt_s h, ty_succ i1 (by omega)]
      omega
theorem ty_0add (m : Int32) : ((0 : Int32) + m).toInt = m.toInt := by rw [Int32.zero_add]
theorem ty_m0 {m : Int32} {j j' : Int} (h : 0 ≤ m.toInt ∧ m.toInt ≤ j) (hj : j ≤ j') : 0 ≤ (m + 0).toInt ∧ (m + 0).toInt ≤ j' := by
  rw [Int32.add_zero]
  omega
theorem ty_mS {m : Int32} {j j' : Int} (h : 0 ≤ m.toInt ∧ m.toInt ≤ j) (hj : j + 1 ≤ j') (h9 : j ≤ 100) : 0 ≤ (m + 1).toInt ∧ (m + 1).toInt ≤ j' := by
  rw [ty_succ h.1 (by omega)]
  omega
theorem ty_ext {e : Int64} {j : Nat} (h : ∀ i, i < j → ¬ ty_bad e (ty_sh i)) (h1 : ¬ ty_bad e (ty_sh j)) : ∀ i, i < j + 1 → ¬ ty_bad e (ty_sh i) := by
  intro i hi
  by_cases q : i = j
  · subst q
    exact h1
  · exact h i (by omega)
set_option maxRecDepth 20000 in
set_option maxHeartbeats 4000000 in
theorem ty_i1a {e : Int64} {hs : sx_H} {dc ds : Nat} {P : Option Value ⊕ Nat → sx_H → Nat → Nat → Prop} {s s1 m c : Int32} (hs1 : s + (-8) = s1) (h0 : 0 ≤ s.toInt) (hT : ty_bad e s → P (.inr hs.length) (hs ++ [.inr (.inr 0)]) (dc + 1) (ds + 6)) (hk0 : (ty_b e s).toInt = 0 → s_wp 18 sM_19 6 [(4, .int s1), (3, .int (m + 0)), (5, .int (ty_b e s)), (0, .ref 2), (1, .long e)] [] hs dc ds P) (hk1 : (ty_b e s).toInt ≠ 0 → 33 ≤ (ty_b e s).toInt → (ty_b e s).toInt ≤ 126 → s_wp 18 sM_19 6 [(4, .int s1), (3, .int (m + 1)), (5, .int (ty_b e s)), (0, .ref 2), (1, .long e)] [] hs dc ds P) : s_wp 18 sM_19 6 [(4, .int s), (3, .int m), (0, .ref 2), (1, .long e)] [] (hs) dc ds P := by
  subst hs1
  refine w_mv (pc1 := 8) (st1 := [.int s]) rfl rfl rfl ?_
  refine w_zlt_F (pc1 := 11) rfl (by decide) rfl (show 0 ≤ s.toInt by omega) ?_
  refine w_mv (pc1 := 12) (st1 := [.long e]) rfl rfl rfl ?_
  refine w_mv (pc1 := 14) (st1 := [.int s, .long e]) rfl rfl rfl ?_
  refine w_call (M' := sM_20) (vals := [.long e, .int s]) (rest := []) (lv' := [(0, .long e), (2, .int s)]) rfl rfl rfl rfl rfl rfl rfl rfl rfl rfl ?_
  refine w_mv (pc1 := 1) (st1 := [.long e]) rfl rfl rfl ?_
  refine w_mv (pc1 := 2) (st1 := [.int s, .long e]) rfl rfl rfl ?_
  refine w_mv (pc1 := 3) (st1 := [.long (UInt64.toInt64 (Int64.toUInt64 e >>> (Int64.toUInt64 (Int32.toInt64 s) &&& Int64.toUInt64 63)))]) rfl rfl rfl ?_
  refine w_mv (pc1 := 4) (st1 := [.int (Int64.toInt32 (UInt64.toInt64 (Int64.toUInt64 e >>> (Int64.toUInt64 (Int32.toInt64 s) &&& Int64.toUInt64 63))))]) rfl rfl rfl ?_
  refine w_mv (pc1 := 7) (st1 := [.int 255, .int (Int64.toInt32 (UInt64.toInt64 (Int64.toUInt64 e >>> (Int64.toUInt64 (Int32.toInt64 s) &&& Int64.toUInt64 63))))]) rfl rfl rfl ?_
  refine w_mv (pc1 := 8) (st1 := [.int (ty_b e s)]) rfl rfl rfl ?_
  refine w_iret (pc1 := 17) rfl rfl rfl rfl ?_
  refine w_mv (pc1 := 19) (lv1 := [(5, .int (ty_b e s)), (4, .int s), (3, .int m), (0, .ref 2), (1, .long e)]) (st1 := []) rfl rfl rfl ?_
  refine w_mv (pc1 := 21) (st1 := [.int (ty_b e s)]) rfl rfl rfl ?_
  by_cases h1 : (ty_b e s).toInt = 0
  ·
    refine w_zeq_T (pc1 := 46) rfl rfl (show (ty_b e s).toInt = 0 by omega) ?_
    refine w_mv (pc1 := 47) (st1 := [.int m]) rfl rfl rfl ?_
    refine w_mv (pc1 := 49) (st1 := [.int (ty_b e s), .int m]) rfl rfl rfl ?_
    refine w_zeq_T (pc1 := 56) rfl rfl (show (ty_b e s).toInt = 0 by omega) ?_
    refine w_mv (pc1 := 57) (st1 := [.int 0, .int m]) rfl rfl rfl ?_
    refine w_mv (pc1 := 58) (st1 := [.int (m + 0)]) rfl rfl rfl ?_
    refine w_mv (pc1 := 59) (lv1 := [(3, .int (m + 0)), (5, .int (ty_b e s)), (4, .int s), (0, .ref 2), (1, .long e)]) (st1 := []) rfl rfl rfl ?_
    refine w_mv (pc1 := 62) (lv1 := [(4, .int (s + (-8))), (3, .int (m + 0)), (5, .int (ty_b e s)), (0, .ref 2), (1, .long e)]) (st1 := []) rfl rfl rfl ?_
    refine w_mv (pc1 := 6) (st1 := []) rfl rfl rfl ?_
    exact hk0 (by omega)
  ·
    refine w_zeq_F (pc1 := 24) rfl (by decide) rfl (show (ty_b e s).toInt ≠ 0 by omega) ?_
    refine w_mv (pc1 := 26) (st1 := [.int (ty_b e s)]) rfl rfl rfl ?_
    refine w_mv (pc1 := 28) (st1 := [.int 33, .int (ty_b e s)]) rfl rfl rfl ?_
    by_cases h2 : (ty_b e s).toInt < 33
    ·
      refine w_ilt_T (pc1 := 38) rfl rfl (show (ty_b e s).toInt < 33 by omega) ?_
      exact sx_wp.throw rfl rfl (by decide) (hT ⟨by omega, by omega⟩)
    ·
      refine w_ilt_F (pc1 := 31) rfl (by decide) rfl (show 33 ≤ (ty_b e s).toInt by omega) ?_
      refine w_mv (pc1 := 33) (st1 := [.int (ty_b e s)]) rfl rfl rfl ?_
      refine w_mv (pc1 := 35) (st1 := [.int 126, .int (ty_b e s)]) rfl rfl rfl ?_
      by_cases h3 : (ty_b e s).toInt ≤ 126
      ·
        refine w_ile_T (pc1 := 46) rfl rfl (show (ty_b e s).toInt ≤ 126 by omega) ?_
        refine w_mv (pc1 := 47) (st1 := [.int m]) rfl rfl rfl ?_
        refine w_mv (pc1 := 49) (st1 := [.int (ty_b e s), .int m]) rfl rfl rfl ?_
        refine w_zeq_F (pc1 := 52) rfl (by decide) rfl (show (ty_b e s).toInt ≠ 0 by omega) ?_
        refine w_mv (pc1 := 53) (st1 := [.int 1, .int m]) rfl rfl rfl ?_
        refine w_mv (pc1 := 57) (st1 := [.int 1, .int m]) rfl rfl rfl ?_
        refine w_mv (pc1 := 58) (st1 := [.int (m + 1)]) rfl rfl rfl ?_
        refine w_mv (pc1 := 59) (lv1 := [(3, .int (m + 1)), (5, .int (ty_b e s)), (4, .int s), (0, .ref 2), (1, .long e)]) (st1 := []) rfl rfl rfl ?_
        refine w_mv (pc1 := 62) (lv1 := [(4, .int (s + (-8))), (3, .int (m + 1)), (5, .int (ty_b e s)), (0, .ref 2), (1, .long e)]) (st1 := []) rfl rfl rfl ?_
        refine w_mv (pc1 := 6) (st1 := []) rfl rfl rfl ?_
        exact hk1 (by omega) (by omega) (by omega)
      ·
        refine w_ile_F (pc1 := 38) rfl (by decide) rfl (show 126 < (ty_b e s).toInt by omega) ?_
        exact sx_wp.throw rfl rfl (by decide) (hT ⟨by omega, by omega⟩)
set_option maxRecDepth 20000 in
set_option maxHeartbeats 4000000 in
theorem ty_i1b {e : Int64} {hs : sx_H} {dc ds : Nat} {P : Option Value ⊕ Nat → sx_H → Nat → Nat → Prop} {s s1 m c : Int32} (hs1 : s + (-8) = s1) (h0 : 0 ≤ s.toInt) (hT : ty_bad e s → P (.inr hs.length) (hs ++ [.inr (.inr 0)]) (dc + 1) (ds + 6)) (hk0 : (ty_b e s).toInt = 0 → s_wp 18 sM_19 6 [(4, .int s1), (3, .int (m + 0)), (5, .int (ty_b e s)), (0, .ref 2), (1, .long e)] [] hs dc ds P) (hk1 : (ty_b e s).toInt ≠ 0 → 33 ≤ (ty_b e s).toInt → (ty_b e s).toInt ≤ 126 → s_wp 18 sM_19 6 [(4, .int s1), (3, .int (m + 1)), (5, .int (ty_b e s)), (0, .ref 2), (1, .long e)] [] hs dc ds P) : s_wp 18 sM_19 6 [(4, .int s), (3, .int m), (5, .int c), (0, .ref 2), (1, .long e)] [] (hs) dc ds P := by
  subst hs1
  refine w_mv (pc1 := 8) (st1 := [.int s]) rfl rfl rfl ?_
  refine w_zlt_F (pc1 := 11) rfl (by decide) rfl (show 0 ≤ s.toInt by omega) ?_
  refine w_mv (pc1 := 12) (st1 := [.long e]) rfl rfl rfl ?_
  refine w_mv (pc1 := 14) (st1 := [.int s, .long e]) rfl rfl rfl ?_
  refine w_call (M' := sM_20) (vals := [.long e, .int s]) (rest := []) (lv' := [(0, .long e), (2, .int s)]) rfl rfl rfl rfl rfl rfl rfl rfl rfl rfl ?_
  refine w_mv (pc1 := 1) (st1 := [.long e]) rfl rfl rfl ?_
  refine w_mv (pc1 := 2) (st1 := [.int s, .long e]) rfl rfl rfl ?_
  refine w_mv (pc1 := 3) (st1 := [.long (UInt64.toInt64 (Int64.toUInt64 e >>> (Int64.toUInt64 (Int32.toInt64 s) &&& Int64.toUInt64 63)))]) rfl rfl rfl ?_
  refine w_mv (pc1 := 4) (st1 := [.int (Int64.toInt32 (UInt64.toInt64 (Int64.toUInt64 e >>> (Int64.toUInt64 (Int32.toInt64 s) &&& Int64.toUInt64 63))))]) rfl rfl rfl ?_
  refine w_mv (pc1 := 7) (st1 := [.int 255, .int (Int64.toInt32 (UInt64.toInt64 (Int64.toUInt64 e >>> (Int64.toUInt64 (Int32.toInt64 s) &&& Int64.toUInt64 63))))]) rfl rfl rfl ?_
  refine w_mv (pc1 := 8) (st1 := [.int (ty_b e s)]) rfl rfl rfl ?_
  refine w_iret (pc1 := 17) rfl rfl rfl rfl ?_
  refine w_mv (pc1 := 19) (lv1 := [(5, .int (ty_b e s)), (4, .int s), (3, .int m), (0, .ref 2), (1, .long e)]) (st1 := []) rfl rfl rfl ?_
  refine w_mv (pc1 := 21) (st1 := [.int (ty_b e s)]) rfl rfl rfl ?_
  by_cases h1 : (ty_b e s).toInt = 0
  ·
    refine w_zeq_T (pc1 := 46) rfl rfl (show (ty_b e s).toInt = 0 by omega) ?_
    refine w_mv (pc1 := 47) (st1 := [.int m]) rfl rfl rfl ?_
    refine w_mv (pc1 := 49) (st1 := [.int (ty_b e s), .int m]) rfl rfl rfl ?_
    refine w_zeq_T (pc1 := 56) rfl rfl (show (ty_b e s).toInt = 0 by omega) ?_
    refine w_mv (pc1 := 57) (st1 := [.int 0, .int m]) rfl rfl rfl ?_
    refine w_mv (pc1 := 58) (st1 := [.int (m + 0)]) rfl rfl rfl ?_
    refine w_mv (pc1 := 59) (lv1 := [(3, .int (m + 0)), (5, .int (ty_b e s)), (4, .int s), (0, .ref 2), (1, .long e)]) (st1 := []) rfl rfl rfl ?_
    refine w_mv (pc1 := 62) (lv1 := [(4, .int (s + (-8))), (3, .int (m + 0)), (5, .int (ty_b e s)), (0, .ref 2), (1, .long e)]) (st1 := []) rfl rfl rfl ?_
    refine w_mv (pc1 := 6) (st1 := []) rfl rfl rfl ?_
    exact hk0 (by omega)
  ·
    refine w_zeq_F (pc1 := 24) rfl (by decide) rfl (show (ty_b e s).toInt ≠ 0 by omega) ?_
    refine w_mv (pc1 := 26) (st1 := [.int (ty_b e s)]) rfl rfl rfl ?_
    refine w_mv (pc1 := 28) (st1 := [.int 33, .int (ty_b e s)]) rfl rfl rfl ?_
    by_cases h2 : (ty_b e s).toInt < 33
    ·
      refine w_ilt_T (pc1 := 38) rfl rfl (show (ty_b e s).toInt < 33 by omega) ?_
      exact sx_wp.throw rfl rfl (by decide) (hT ⟨by omega, by omega⟩)
    ·
      refine w_ilt_F (pc1 := 31) rfl (by decide) rfl (show 33 ≤ (ty_b e s).toInt by omega) ?_
      refine w_mv (pc1 := 33) (st1 := [.int (ty_b e s)]) rfl rfl rfl ?_
      refine w_mv (pc1 := 35) (st1 := [.int 126, .int (ty_b e s)]) rfl rfl rfl ?_
      by_cases h3 : (ty_b e s).toInt ≤ 126
      ·
        refine w_ile_T (pc1 := 46) rfl rfl (show (ty_b e s).toInt ≤ 126 by omega) ?_
        refine w_mv (pc1 := 47) (st1 := [.int m]) rfl rfl rfl ?_
        refine w_mv (pc1 := 49) (st1 := [.int (ty_b e s), .int m]) rfl rfl rfl ?_
        refine w_zeq_F (pc1 := 52) rfl (by decide) rfl (show (ty_b e s).toInt ≠ 0 by omega) ?_
        refine w_mv (pc1 := 53) (st1 := [.int 1, .int m]) rfl rfl rfl ?_
        refine w_mv (pc1 := 57) (st1 := [.int 1, .int m]) rfl rfl rfl ?_
        refine w_mv (pc1 := 58) (st1 := [.int (m + 1)]) rfl rfl rfl ?_
        refine w_mv (pc1 := 59) (lv1 := [(3, .int (m + 1)), (5, .int (ty_b e s)), (4, .int s), (0, .ref 2), (1, .long e)]) (st1 := []) rfl rfl rfl ?_
        refine w_mv (pc1 := 62) (lv1 := [(4, .int (s + (-8))), (3, .int (m + 1)), (5, .int (ty_b e s)), (0, .ref 2), (1, .long e)]) (st1 := []) rfl rfl rfl ?_
        refine w_mv (pc1 := 6) (st1 := []) rfl rfl rfl ?_
        exact hk1 (by omega) (by omega) (by omega)
      ·
        refine w_ile_F (pc1 := 38) rfl (by decide) rfl (show 126 < (ty_b e s).toInt by omega) ?_
        exact sx_wp.throw rfl rfl (by decide) (hT ⟨by omega, by omega⟩)
set_option maxRecDepth 20000 in
set_option maxHeartbeats 4000000 in
theorem ty_c1 {e : Int64} {hs : sx_H} {dc ds : Nat} {P : Option Value ⊕ Nat → sx_H → Nat → Nat → Prop} (hT : (∃ j, j < 8 ∧ ty_bad e (ty_sh j)) → P (.inr hs.length) (hs ++ [.inr (.inr 0)]) (dc + 1) (ds + 6)) (hk : (∀ j, j < 8 → ¬ ty_bad e (ty_sh j)) → ∀ m c : Int32, 0 ≤ m.toInt → m.toInt ≤ 8 → s_wp 18 sM_19 6 [(4, .int (-8)), (3, .int m), (5, .int c), (0, .ref 2), (1, .long e)] [] hs dc ds P) : s_wp 18 sM_19 6 [(4, .int 56), (3, .int 0), (0, .ref 2), (1, .long e)] [] hs dc ds P := by
  have L8 : ∀ m c : Int32, 0 ≤ m.toInt ∧ m.toInt ≤ 8 → (∀ j, j < 8 → ¬ ty_bad e (ty_sh j)) → s_wp 18 sM_19 6 [(4, .int (-8)), (3, .int m), (5, .int c), (0, .ref 2), (1, .long e)] [] hs dc ds P := fun m c hm hb => hk hb m c hm.1 hm.2
  have L7 : ∀ m c : Int32, 0 ≤ m.toInt ∧ m.toInt ≤ 7 → (∀ j, j < 7 → ¬ ty_bad e (ty_sh j)) → s_wp 18 sM_19 6 [(4, .int 0), (3, .int m), (5, .int c), (0, .ref 2), (1, .long e)] [] hs dc ds P := fun m c hm hb => ty_i1b (s := 0) (s1 := (-8)) (by decide) (by decide) (fun h => hT ⟨7, by decide, h⟩) (fun h => L8 _ _ (ty_m0 hm (by decide)) (ty_ext hb (fun q => q.1 h))) (fun h h1 h2 => L8 _ _ (ty_mS hm (by decide) (by decide)) (ty_ext hb (fun q => q.2.elim (fun z => Int.not_le.mpr z h1) (fun z => Int.not_le.mpr z h2))))
  have L6 : ∀ m c : Int32, 0 ≤ m.toInt ∧ m.toInt ≤ 6 → (∀ j, j < 6 → ¬ ty_bad e (ty_sh j)) → s_wp 18 sM_19 6 [(4, .int 8), (3, .int m), (5, .int c), (0, .ref 2), (1, .long e)] [] hs dc ds P := fun m c hm hb => ty_i1b (s := 8) (s1 := 0) (by decide) (by decide) (fun h => hT ⟨6, by decide, h⟩) (fun h => L7 _ _ (ty_m0 hm (by decide)) (ty_ext hb (fun q => q.1 h))) (fun h h1 h2 => L7 _ _ (ty_mS hm (by decide) (by decide)) (ty_ext hb (fun q => q.2.elim (fun z => Int.not_le.mpr z h1) (fun z => Int.not_le.mpr z h2))))
  have L5 : ∀ m c : Int32, 0 ≤ m.toInt ∧ m.toInt ≤ 5 → (∀ j, j < 5 → ¬ ty_bad e (ty_sh j)) → s_wp 18 sM_19 6 [(4, .int 16), (3, .int m), (5, .int c), (0, .ref 2), (1, .long e)] [] hs dc ds P := fun m c hm hb => ty_i1b (s := 16) (s1 := 8) (by decide) (by decide) (fun h => hT ⟨5, by decide, h⟩) (fun h => L6 _ _ (ty_m0 hm (by decide)) (ty_ext hb (fun q => q.1 h))) (fun h h1 h2 => L6 _ _ (ty_mS hm (by decide) (by decide)) (ty_ext hb (fun q => q.2.elim (fun z => Int.not_le.mpr z h1) (fun z => Int.not_le.mpr z h2))))
  have L4 : ∀ m c : Int32, 0 ≤ m.toInt ∧ m.toInt ≤ 4 → (∀ j, j < 4 → ¬ ty_bad e (ty_sh j)) → s_wp 18 sM_19 6 [(4, .int 24), (3, .int m), (5, .int c), (0, .ref 2), (1, .long e)] [] hs dc ds P := fun m c hm hb => ty_i1b (s := 24) (s1 := 16) (by decide) (by decide) (fun h => hT ⟨4, by decide, h⟩) (fun h => L5 _ _ (ty_m0 hm (by decide)) (ty_ext hb (fun q => q.1 h))) (fun h h1 h2 => L5 _ _ (ty_mS hm (by decide) (by decide)) (ty_ext hb (fun q => q.2.elim (fun z => Int.not_le.mpr z h1) (fun z => Int.not_le.mpr z h2))))
  have L3 : ∀ m c : Int32, 0 ≤ m.toInt ∧ m.toInt ≤ 3 → (∀ j, j < 3 → ¬ ty_bad e (ty_sh j)) → s_wp 18 sM_19 6 [(4, .int 32), (3, .int m), (5, .int c), (0, .ref 2), (1, .long e)] [] hs dc ds P := fun m c hm hb => ty_i1b (s := 32) (s1 := 24) (by decide) (by decide) (fun h => hT ⟨3, by decide, h⟩) (fun h => L4 _ _ (ty_m0 hm (by decide)) (ty_ext hb (fun q => q.1 h))) (fun h h1 h2 => L4 _ _ (ty_mS hm (by decide) (by decide)) (ty_ext hb (fun q => q.2.elim (fun z => Int.not_le.mpr z h1) (fun z => Int.not_le.mpr z h2))))
  have L2 : ∀ m c : Int32, 0 ≤ m.toInt ∧ m.toInt ≤ 2 → (∀ j, j < 2 → ¬ ty_bad e (ty_sh j)) → s_wp 18 sM_19 6 [(4, .int 40), (3, .int m), (5, .int c), (0, .ref 2), (1, .long e)] [] hs dc ds P := fun m c hm hb => ty_i1b (s := 40) (s1 := 32) (by decide) (by decide) (fun h => hT ⟨2, by decide, h⟩) (fun h => L3 _ _ (ty_m0 hm (by decide)) (ty_ext hb (fun q => q.1 h))) (fun h h1 h2 => L3 _ _ (ty_mS hm (by decide) (by decide)) (ty_ext hb (fun q => q.2.elim (fun z => Int.not_le.mpr z h1) (fun z => Int.not_le.mpr z h2))))
  have L1 : ∀ m c : Int32, 0 ≤ m.toInt ∧ m.toInt ≤ 1 → (∀ j, j < 1 → ¬ ty_bad e (ty_sh j)) → s_wp 18 sM_19 6 [(4, .int 48), (3, .int m), (5, .int c), (0, .ref 2), (1, .long e)] [] hs dc ds P := fun m c hm hb => ty_i1b (s := 48) (s1 := 40) (by decide) (by decide) (fun h => hT ⟨1, by decide, h⟩) (fun h => L2 _ _ (ty_m0 hm (by decide)) (ty_ext hb (fun q => q.1 h))) (fun h h1 h2 => L2 _ _ (ty_mS hm (by decide) (by decide)) (ty_ext hb (fun q => q.2.elim (fun z => Int.not_le.mpr z h1) (fun z => Int.not_le.mpr z h2))))
  exact ty_i1a (s := 56) (s1 := 48) (m := 0) (c := 0) (by decide) (by decide) (fun h => hT ⟨0, by decide, h⟩) (fun h => L1 _ _ ⟨by decide, by decide⟩ (ty_ext (fun i hi => absurd hi (Nat.not_lt_zero i)) (fun q => q.1 h))) (fun h h1 h2 => L1 _ _ ⟨by decide, by decide⟩ (ty_ext (fun i hi => absurd hi (Nat.not_lt_zero i)) (fun q => q.2.elim (fun z => Int.not_le.mpr z h1) (fun z => Int.not_le.mpr z h2))))
def ty_H (xs : Nat → Int32) (k : Int32) (f : Nat → Int32) (o : Nat → Int64) (k2 : Int32) (f2 : Nat → Int32) : sx_H := [.inl (0, (3, .inl xs)), .inl (4, (0, .inr (.inr (.inr (.inr (fun _ => none)))))), sc_43, .inr (.inl (1, [.ref 4, .int k, .int 0])), .inl (1, (48, .inl f)), sc_7, sc_30, sc_20, sc_12, sc_7, sc_17, sc_15, sc_15, sc_19, sc_38, sc_26, sc_25, sc_28, sc_25, sc_19, sc_31, sc_25, sc_33, sc_25, sc_35, sc_25, sc_37, sc_25, sc_42, sc_41, .inr (.inl (12, [.ref 31, .ref 32, .ref 33, .ref 34, .ref 35, .ref 36, .ref 37, .int k2, .int 0, .int (-1), .int 0, .int 0, .int 0, .int 0, .ref 38, .ref 39, .ref 40, .ref 41, .ref 42, .ref 43, .ref 44, .ref 45, .ref 46, .ref 47, .ref 48, .ref 49, .ref 50, .ref 51, .ref 52, .ref 53, .ref 54, .ref 55, .ref 56, .ref 57, .ref 58, .ref 59, .ref 60, .int 0, .int 0, .int 0, .int 0, .int 0, .int 0, .int 0, .int 0, .int 0, .int 0])), .inl (0, (48, .inl f2)), sc_47, sc_49, sc_51, sc_51, sc_54, sc_54, sc_58, sc_58, sc_61, sc_63, sc_65, sc_65, sc_65, sc_65, sc_65, sc_65, sc_65, sc_65, sc_74, sc_76, sc_78, sc_80, sc_82, sc_84, sc_84, sc_51, sc_51, sc_89, sc_91, .inl (3, (1, .inr (.inl o)))]
set_option maxRecDepth 20000 in
set_option maxHeartbeats 4000000 in
theorem ty_i2a {xs : Nat → Int32} {e : Int64} {dc ds : Nat} {P : Option Value ⊕ Nat → sx_H → Nat → Nat → Prop} {s s1 m c k : Int32} {f : Nat → Int32} (hs1 : s + (-8) = s1) (h0 : 0 ≤ s.toInt) (hr : 0 ≤ k.toInt ∧ k.toInt ≤ 40) (hk0 : (ty_b e s).toInt = 0 → s_wp 18 sM_19 91 [(4, .int s1), (5, .int (ty_b e s)), (3, .int m), (0, .ref 2), (1, .long e)] [] (ty_H xs k f (fun _ => 0) 0 (fun _ => 0)) dc ds P) (hk1 : (ty_b e s).toInt ≠ 0 → ∀ g : Nat → Int32, s_wp 18 sM_19 91 [(4, .int s1), (5, .int (ty_b e s)), (3, .int m), (0, .ref 2), (1, .long e)] [] (ty_H xs (k + 1) g (fun _ => 0) 0 (fun _ => 0)) dc ds P) : s_wp 18 sM_19 91 [(4, .int s), (3, .int m), (5, .int c), (0, .ref 2), (1, .long e)] [] (ty_H xs k f (fun _ => 0) 0 (fun _ => 0)) dc ds P := by
  subst hs1
  refine w_mv (pc1 := 93) (st1 := [.int s]) rfl rfl rfl ?_
  refine w_zlt_F (pc1 := 96) rfl (by decide) rfl (show 0 ≤ s.toInt by omega) ?_
  refine w_mv (pc1 := 97) (st1 := [.long e]) rfl rfl rfl ?_
  refine w_mv (pc1 := 99) (st1 := [.int s, .long e]) rfl rfl rfl ?_
  refine w_call (M' := sM_20) (vals := [.long e, .int s]) (rest := []) (lv' := [(0, .long e), (2, .int s)]) rfl rfl rfl rfl rfl rfl rfl rfl rfl rfl ?_
  refine w_mv (pc1 := 1) (st1 := [.long e]) rfl rfl rfl ?_
  refine w_mv (pc1 := 2) (st1 := [.int s, .long e]) rfl rfl rfl ?_
  refine w_mv (pc1 := 3) (st1 := [.long (UInt64.toInt64 (Int64.toUInt64 e >>> (Int64.toUInt64 (Int32.toInt64 s) &&& Int64.toUInt64 63)))]) rfl rfl rfl ?_
  refine w_mv (pc1 := 4) (st1 := [.int (Int64.toInt32 (UInt64.toInt64 (Int64.toUInt64 e >>> (Int64.toUInt64 (Int32.toInt64 s) &&& Int64.toUInt64 63))))]) rfl rfl rfl ?_
  refine w_mv (pc1 := 7) (st1 := [.int 255, .int (Int64.toInt32 (UInt64.toInt64 (Int64.toUInt64 e >>> (Int64.toUInt64 (Int32.toInt64 s) &&& Int64.toUInt64 63))))]) rfl rfl rfl ?_
  refine w_mv (pc1 := 8) (st1 := [.int (ty_b e s)]) rfl rfl rfl ?_
  refine w_iret (pc1 := 102) rfl rfl rfl rfl ?_
  refine w_mv (pc1 := 104) (lv1 := [(5, .int (ty_b e s)), (4, .int s), (3, .int m), (0, .ref 2), (1, .long e)]) (st1 := []) rfl rfl rfl ?_
  refine w_mv (pc1 := 106) (st1 := [.int (ty_b e s)]) rfl rfl rfl ?_
  by_cases h1 : (ty_b e s).toInt = 0
  ·
    refine w_zeq_T (pc1 := 118) rfl rfl (show (ty_b e s).toInt = 0 by omega) ?_
    refine w_mv (pc1 := 121) (lv1 := [(4, .int (s + (-8))), (5, .int (ty_b e s)), (3, .int m), (0, .ref 2), (1, .long e)]) (st1 := []) rfl rfl rfl ?_
    refine w_mv (pc1 := 91) (st1 := []) rfl rfl rfl ?_
    exact hk0 (by omega)
  ·
    refine w_zeq_F (pc1 := 109) rfl (by decide) rfl (show (ty_b e s).toInt ≠ 0 by omega) ?_
    refine w_mv (pc1 := 110) (st1 := [.ref 2]) rfl rfl rfl ?_
    refine w_mv (pc1 := 113) (st1 := [.ref 3]) rfl rfl rfl ?_
    refine w_mv (pc1 := 115) (st1 := [.int (ty_b e s), .ref 3]) rfl rfl rfl ?_
    refine w_call (M' := sM_21) (vals := [.ref 3, .int (ty_b e s)]) (rest := []) (lv' := [(0, .ref 3), (1, .int (ty_b e s))]) rfl rfl rfl rfl rfl rfl rfl rfl rfl rfl ?_
    refine w_mv (pc1 := 1) (st1 := [.ref 3]) rfl rfl rfl ?_
    refine w_mv (pc1 := 4) (st1 := [.int k]) rfl rfl rfl ?_
    refine w_mv (pc1 := 6) (st1 := [.int 48, .int k]) rfl rfl rfl ?_
    refine w_ige_F (pc1 := 9) rfl (by decide) rfl (show k.toInt < 48 by omega) ?_
    refine w_mv (pc1 := 10) (st1 := [.ref 3]) rfl rfl rfl ?_
    refine w_mv (pc1 := 13) (st1 := [.ref 4]) rfl rfl rfl ?_
    refine w_mv (pc1 := 14) (st1 := [.ref 3, .ref 4]) rfl rfl rfl ?_
    refine w_mv (pc1 := 17) (st1 := [.int k, .ref 4]) rfl rfl rfl ?_
    refine w_mv (pc1 := 18) (st1 := [.int (ty_b e s), .int k, .ref 4]) rfl rfl rfl ?_
    refine w_mv (pc1 := 19) (st1 := [.int (Int8.toInt32 (Int32.toInt8 (ty_b e s))), .int k, .ref 4]) rfl rfl rfl ?_
    refine w_ast (x := 4) (t := 1) (n := 48) (f := f) (ty := .byte) (nw := vp_nar .byte) (pc1 := 20) (hs1 := ty_H xs k (upd f k.toNatClampNeg (vp_nar .byte (Int8.toInt32 (Int32.toInt8 (ty_b e s))))) (fun _ => 0) 0 (fun _ => 0)) rfl rfl rfl rfl rfl rfl (show 0 ≤ k.toInt by omega) (show k.toInt < 48 by omega) rfl rfl ?_
    refine w_mv (pc1 := 21) (st1 := [.ref 3]) rfl rfl rfl ?_
    refine w_mv (pc1 := 22) (st1 := [.ref 3, .ref 3]) rfl rfl rfl ?_
    refine w_mv (pc1 := 25) (st1 := [.int k, .ref 3]) rfl rfl rfl ?_
    refine w_mv (pc1 := 26) (st1 := [.int 1, .int k, .ref 3]) rfl rfl rfl ?_
    refine w_mv (pc1 := 27) (st1 := [.int (k + 1), .ref 3]) rfl rfl rfl ?_
    refine w_st (pc1 := 30) (st1 := []) (hs1 := ty_H xs (k + 1) (upd f k.toNatClampNeg (vp_nar .byte (Int8.toInt32 (Int32.toInt8 (ty_b e s))))) (fun _ => 0) 0 (fun _ => 0)) (dc1 := 0) (ds1 := 0) (dc2 := dc) (ds2 := ds) rfl rfl rfl rfl rfl ?_
    refine w_vret (pc1 := 118) rfl rfl rfl ?_
    refine w_mv (pc1 := 121) (lv1 := [(4, .int (s + (-8))), (5, .int (ty_b e s)), (3, .int m), (0, .ref 2), (1, .long e)]) (st1 := []) rfl rfl rfl ?_
    refine w_mv (pc1 := 91) (st1 := []) rfl rfl rfl ?_
    exact hk1 (by omega) _
set_option maxRecDepth 20000 in
set_option maxHeartbeats 4000000 in
theorem ty_i2b {xs : Nat → Int32} {e : Int64} {dc ds : Nat} {P : Option Value ⊕ Nat → sx_H → Nat → Nat → Prop} {s s1 m c k : Int32} {f : Nat → Int32} (hs1 : s + (-8) = s1) (h0 : 0 ≤ s.toInt) (hr : 0 ≤ k.toInt ∧ k.toInt ≤ 40) (hk0 : (ty_b e s).toInt = 0 → s_wp 18 sM_19 91 [(4, .int s1), (5, .int (ty_b e s)), (3, .int m), (0, .ref 2), (1, .long e)] [] (ty_H xs k f (fun _ => 0) 0 (fun _ => 0)) dc ds P) (hk1 : (ty_b e s).toInt ≠ 0 → ∀ g : Nat → Int32, s_wp 18 sM_19 91 [(4, .int s1), (5, .int (ty_b e s)), (3, .int m), (0, .ref 2), (1, .long e)] [] (ty_H xs (k + 1) g (fun _ => 0) 0 (fun _ => 0)) dc ds P) : s_wp 18 sM_19 91 [(4, .int s), (5, .int c), (3, .int m), (0, .ref 2), (1, .long e)] [] (ty_H xs k f (fun _ => 0) 0 (fun _ => 0)) dc ds P := by
  subst hs1
  refine w_mv (pc1 := 93) (st1 := [.int s]) rfl rfl rfl ?_
  refine w_zlt_F (pc1 := 96) rfl (by decide) rfl (show 0 ≤ s.toInt by omega) ?_
  refine w_mv (pc1 := 97) (st1 := [.long e]) rfl rfl rfl ?_
  refine w_mv (pc1 := 99) (st1 := [.int s, .long e]) rfl rfl rfl ?_
  refine w_call (M' := sM_20) (vals := [.long e, .int s]) (rest := []) (lv' := [(0, .long e), (2, .int s)]) rfl rfl rfl rfl rfl rfl rfl rfl rfl rfl ?_
  refine w_mv (pc1 := 1) (st1 := [.long e]) rfl rfl rfl ?_
  refine w_mv (pc1 := 2) (st1 := [.int s, .long e]) rfl rfl rfl ?_
  refine w_mv (pc1 := 3) (st1 := [.long (UInt64.toInt64 (Int64.toUInt64 e >>> (Int64.toUInt64 (Int32.toInt64 s) &&& Int64.toUInt64 63)))]) rfl rfl rfl ?_
  refine w_mv (pc1 := 4) (st1 := [.int (Int64.toInt32 (UInt64.toInt64 (Int64.toUInt64 e >>> (Int64.toUInt64 (Int32.toInt64 s) &&& Int64.toUInt64 63))))]) rfl rfl rfl ?_
  refine w_mv (pc1 := 7) (st1 := [.int 255, .int (Int64.toInt32 (UInt64.toInt64 (Int64.toUInt64 e >>> (Int64.toUInt64 (Int32.toInt64 s) &&& Int64.toUInt64 63))))]) rfl rfl rfl ?_
  refine w_mv (pc1 := 8) (st1 := [.int (ty_b e s)]) rfl rfl rfl ?_
  refine w_iret (pc1 := 102) rfl rfl rfl rfl ?_
  refine w_mv (pc1 := 104) (lv1 := [(5, .int (ty_b e s)), (4, .int s), (3, .int m), (0, .ref 2), (1, .long e)]) (st1 := []) rfl rfl rfl ?_
  refine w_mv (pc1 := 106) (st1 := [.int (ty_b e s)]) rfl rfl rfl ?_
  by_cases h1 : (ty_b e s).toInt = 0
  ·
    refine w_zeq_T (pc1 := 118) rfl rfl (show (ty_b e s).toInt = 0 by omega) ?_
    refine w_mv (pc1 := 121) (lv1 := [(4, .int (s + (-8))), (5, .int (ty_b e s)), (3, .int m), (0, .ref 2), (1, .long e)]) (st1 := []) rfl rfl rfl ?_
    refine w_mv (pc1 := 91) (st1 := []) rfl rfl rfl ?_
    exact hk0 (by omega)
  ·
    refine w_zeq_F (pc1 := 109) rfl (by decide) rfl (show (ty_b e s).toInt ≠ 0 by omega) ?_
    refine w_mv (pc1 := 110) (st1 := [.ref 2]) rfl rfl rfl ?_
    refine w_mv (pc1 := 113) (st1 := [.ref 3]) rfl rfl rfl ?_
    refine w_mv (pc1 := 115) (st1 := [.int (ty_b e s), .ref 3]) rfl rfl rfl ?_
    refine w_call (M' := sM_21) (vals := [.ref 3, .int (ty_b e s)]) (rest := []) (lv' := [(0, .ref 3), (1, .int (ty_b e s))]) rfl rfl rfl rfl rfl rfl rfl rfl rfl rfl ?_
    refine w_mv (pc1 := 1) (st1 := [.ref 3]) rfl rfl rfl ?_
    refine w_mv (pc1 := 4) (st1 := [.int k]) rfl rfl rfl ?_
    refine w_mv (pc1 := 6) (st1 := [.int 48, .int k]) rfl rfl rfl ?_
    refine w_ige_F (pc1 := 9) rfl (by decide) rfl (show k.toInt < 48 by omega) ?_
    refine w_mv (pc1 := 10) (st1 := [.ref 3]) rfl rfl rfl ?_
    refine w_mv (pc1 := 13) (st1 := [.ref 4]) rfl rfl rfl ?_
    refine w_mv (pc1 := 14) (st1 := [.ref 3, .ref 4]) rfl rfl rfl ?_
    refine w_mv (pc1 := 17) (st1 := [.int k, .ref 4]) rfl rfl rfl ?_
    refine w_mv (pc1 := 18) (st1 := [.int (ty_b e s), .int k, .ref 4]) rfl rfl rfl ?_
    refine w_mv (pc1 := 19) (st1 := [.int (Int8.toInt32 (Int32.toInt8 (ty_b e s))), .int k, .ref 4]) rfl rfl rfl ?_
    refine w_ast (x := 4) (t := 1) (n := 48) (f := f) (ty := .byte) (nw := vp_nar .byte) (pc1 := 20) (hs1 := ty_H xs k (upd f k.toNatClampNeg (vp_nar .byte (Int8.toInt32 (Int32.toInt8 (ty_b e s))))) (fun _ => 0) 0 (fun _ => 0)) rfl rfl rfl rfl rfl rfl (show 0 ≤ k.toInt by omega) (show k.toInt < 48 by omega) rfl rfl ?_
    refine w_mv (pc1 := 21) (st1 := [.ref 3]) rfl rfl rfl ?_
    refine w_mv (pc1 := 22) (st1 := [.ref 3, .ref 3]) rfl rfl rfl ?_
    refine w_mv (pc1 := 25) (st1 := [.int k, .ref 3]) rfl rfl rfl ?_
    refine w_mv (pc1 := 26) (st1 := [.int 1, .int k, .ref 3]) rfl rfl rfl ?_
    refine w_mv (pc1 := 27) (st1 := [.int (k + 1), .ref 3]) rfl rfl rfl ?_
    refine w_st (pc1 := 30) (st1 := []) (hs1 := ty_H xs (k + 1) (upd f k.toNatClampNeg (vp_nar .byte (Int8.toInt32 (Int32.toInt8 (ty_b e s))))) (fun _ => 0) 0 (fun _ => 0)) (dc1 := 0) (ds1 := 0) (dc2 := dc) (ds2 := ds) rfl rfl rfl rfl rfl ?_
    refine w_vret (pc1 := 118) rfl rfl rfl ?_
    refine w_mv (pc1 := 121) (lv1 := [(4, .int (s + (-8))), (5, .int (ty_b e s)), (3, .int m), (0, .ref 2), (1, .long e)]) (st1 := []) rfl rfl rfl ?_
    refine w_mv (pc1 := 91) (st1 := []) rfl rfl rfl ?_
    exact hk1 (by omega) _
set_option maxRecDepth 20000 in
set_option maxHeartbeats 4000000 in
theorem ty_c2 {xs : Nat → Int32} {e : Int64} {dc ds : Nat} {P : Option Value ⊕ Nat → sx_H → Nat → Nat → Prop} {m c : Int32} (hk : ∀ (f : Nat → Int32) (c : Int32), s_wp 18 sM_19 91 [(4, .int (-8)), (5, .int c), (3, .int m), (0, .ref 2), (1, .long e)] [] (ty_H xs (ty_cnt e 8) f (fun _ => 0) 0 (fun _ => 0)) dc ds P) : s_wp 18 sM_19 91 [(4, .int 56), (3, .int m), (5, .int c), (0, .ref 2), (1, .long e)] [] (ty_H xs 0 (fun _ => 0) (fun _ => 0) 0 (fun _ => 0)) dc ds P := by
  have L8 : ∀ (k : Int32) (f : Nat → Int32) (c : Int32), k = ty_cnt e 8 → s_wp 18 sM_19 91 [(4, .int (-8)), (5, .int c), (3, .int m), (0, .ref 2), (1, .long e)] [] (ty_H xs k f (fun _ => 0) 0 (fun _ => 0)) dc ds P := fun k f c h => by
    subst h
    exact hk f c
  have L7 : ∀ (k : Int32) (f : Nat → Int32) (c : Int32), k = ty_cnt e 7 → s_wp 18 sM_19 91 [(4, .int 0), (5, .int c), (3, .int m), (0, .ref 2), (1, .long e)] [] (ty_H xs k f (fun _ => 0) 0 (fun _ => 0)) dc ds P := fun k f c h => ty_i2b (s := 0) (s1 := (-8)) (by decide) (by decide) (by have := ty_cnt_rng e 7 (by decide); rw [h]; omega) (fun q => L8 k f _ (h.trans (ty_cnt_z (j := 7) q).symm)) (fun q g => L8 (k + 1) g _ ((congrArg (· + 1) h).trans (ty_cnt_s (j := 7) q).symm))
  have L6 : ∀ (k : Int32) (f : Nat → Int32) (c : Int32), k = ty_cnt e 6 → s_wp 18 sM_19 91 [(4, .int 8), (5, .int c), (3, .int m), (0, .ref 2), (1, .long e)] [] (ty_H xs k f (fun _ => 0) 0 (fun _ => 0)) dc ds P := fun k f c h => ty_i2b (s := 8) (s1 := 0) (by decide) (by decide) (by have := ty_cnt_rng e 6 (by decide); rw [h]; omega) (fun q => L7 k f _ (h.trans (ty_cnt_z (j := 6) q).symm)) (fun q g => L7 (k + 1) g _ ((congrArg (· + 1) h).trans (ty_cnt_s (j := 6) q).symm))
  have L5 : ∀ (k : Int32) (f : Nat → Int32) (c : Int32), k = ty_cnt e 5 → s_wp 18 sM_19 91 [(4, .int 16), (5, .int c), (3, .int m), (0, .ref 2), (1, .long e)] [] (ty_H xs k f (fun _ => 0) 0 (fun _ => 0)) dc ds P := fun k f c h => ty_i2b (s := 16) (s1 := 8) (by decide) (by decide) (by have := ty_cnt_rng e 5 (by decide); rw [h]; omega) (fun q => L6 k f _ (h.trans (ty_cnt_z (j := 5) q).symm)) (fun q g => L6 (k + 1) g _ ((congrArg (· + 1) h).trans (ty_cnt_s (j := 5) q).symm))
  have L4 : ∀ (k : Int32) (f : Nat → Int32) (c : Int32), k = ty_cnt e 4 → s_wp 18 sM_19 91 [(4, .int 24), (5, .int c), (3, .int m), (0, .ref 2), (1, .long e)] [] (ty_H xs k f (fun _ => 0) 0 (fun _ => 0)) dc ds P := fun k f c h => ty_i2b (s := 24) (s1 := 16) (by decide) (by decide) (by have := ty_cnt_rng e 4 (by decide); rw [h]; omega) (fun q => L5 k f _ (h.trans (ty_cnt_z (j := 4) q).symm)) (fun q g => L5 (k + 1) g _ ((congrArg (· + 1) h).trans (ty_cnt_s (j := 4) q).symm))
  have L3 : ∀ (k : Int32) (f : Nat → Int32) (c : Int32), k = ty_cnt e 3 → s_wp 18 sM_19 91 [(4, .int 32), (5, .int c), (3, .int m), (0, .ref 2), (1, .long e)] [] (ty_H xs k f (fun _ => 0) 0 (fun _ => 0)) dc ds P := fun k f c h => ty_i2b (s := 32) (s1 := 24) (by decide) (by decide) (by have := ty_cnt_rng e 3 (by decide); rw [h]; omega) (fun q => L4 k f _ (h.trans (ty_cnt_z (j := 3) q).symm)) (fun q g => L4 (k + 1) g _ ((congrArg (· + 1) h).trans (ty_cnt_s (j := 3) q).symm))
  have L2 : ∀ (k : Int32) (f : Nat → Int32) (c : Int32), k = ty_cnt e 2 → s_wp 18 sM_19 91 [(4, .int 40), (5, .int c), (3, .int m), (0, .ref 2), (1, .long e)] [] (ty_H xs k f (fun _ => 0) 0 (fun _ => 0)) dc ds P := fun k f c h => ty_i2b (s := 40) (s1 := 32) (by decide) (by decide) (by have := ty_cnt_rng e 2 (by decide); rw [h]; omega) (fun q => L3 k f _ (h.trans (ty_cnt_z (j := 2) q).symm)) (fun q g => L3 (k + 1) g _ ((congrArg (· + 1) h).trans (ty_cnt_s (j := 2) q).symm))
  have L1 : ∀ (k : Int32) (f : Nat → Int32) (c : Int32), k = ty_cnt e 1 → s_wp 18 sM_19 91 [(4, .int 48), (5, .int c), (3, .int m), (0, .ref 2), (1, .long e)] [] (ty_H xs k f (fun _ => 0) 0 (fun _ => 0)) dc ds P := fun k f c h => ty_i2b (s := 48) (s1 := 40) (by decide) (by decide) (by have := ty_cnt_rng e 1 (by decide); rw [h]; omega) (fun q => L2 k f _ (h.trans (ty_cnt_z (j := 1) q).symm)) (fun q g => L2 (k + 1) g _ ((congrArg (· + 1) h).trans (ty_cnt_s (j := 1) q).symm))
  exact ty_i2a (s := 56) (s1 := 48) (k := 0) (by decide) (by decide) (by decide) (fun q => L1 0 _ _ (ty_cnt_z (e := e) (j := 0) q).symm) (fun q g => L1 (0 + 1) g _ (ty_cnt_s (e := e) (j := 0) q).symm)
def ty_lvm (o : Nat) (s n f c : Int32) (e : Int64) : List (Nat × Value) := match o with
  | 0 => [(5, .int s), (6, .int c), (4, .int f), (3, .int n), (0, .ref 30), (1, .long e)]
  | 1 => [(5, .int s), (6, .int c), (3, .int n), (4, .int f), (0, .ref 30), (1, .long e)]
  | 2 => [(5, .int s), (3, .int n), (6, .int c), (4, .int f), (0, .ref 30), (1, .long e)]
  | _ => [(5, .int s), (4, .int f), (3, .int n), (6, .int c), (0, .ref 30), (1, .long e)]
def ty_nx (e : Int64) (s n f n1 f1 : Int32) : Prop := ((ty_b e s).toInt = 0 ∧ n1 = n ∧ f1 = f) ∨ (((ty_b e s).toInt ≠ 0 ∧ ¬ ty_bad e s) ∧ n1 = n + 1 ∧ f1 = f) ∨ (ty_bad e s ∧ n1 = n + 1 ∧ f1 = 0)
def ty_iv (e : Int64) (j : Nat) (n f : Int32) : Prop := (0 ≤ n.toInt ∧ n.toInt ≤ (j : Int)) ∧ ((f = 1 ∧ ∀ i, i < j → ¬ ty_bad e (ty_sh i)) ∨ (f = 0 ∧ ∃ i, i < j ∧ ty_bad e (ty_sh i)))
theorem ty_iv_next {e : Int64} {j : Nat} {n f n1 f1 : Int32} (hj : j < 8) (h : ty_iv e j n f) (q : ty_nx e (ty_sh j) n f n1 f1) : ty_iv e (j + 1) n1 f1 := by
  obtain ⟨⟨h1, h2⟩, h3⟩ := h
  rcases q with ⟨q1, rfl, rfl⟩ | ⟨⟨q1, q2⟩, rfl, rfl⟩ | ⟨q1, rfl, rfl⟩
  · refine ⟨⟨h1, by omega⟩, ?_⟩
    rcases h3 with ⟨a, b⟩ | ⟨a, i, b, c⟩
    · exact Or.inl ⟨a, ty_ext b (fun z => z.1 q1)⟩
    · exact Or.inr ⟨a, i, by omega, c⟩
  · refine ⟨by rw [ty_succ h1 (by omega)]; omega, ?_⟩
    rcases h3 with ⟨a, b⟩ | ⟨a, i, b, c⟩
    · exact Or.inl ⟨a, ty_ext b q2⟩
    · exact Or.inr ⟨a, i, by omega, c⟩
  · exact ⟨by rw [ty_succ h1 (by omega)]; omega, Or.inr ⟨rfl, j, by omega, q1⟩⟩
set_option maxRecDepth 20000 in
set_option maxHeartbeats 4000000 in
theorem ty_i3_0 {e : Int64} {hs : sx_H} {dc ds : Nat} {P : Option Value ⊕ Nat → sx_H → Nat → Nat → Prop} {s s1 n f c : Int32} (hs1 : s + (-8) = s1) (h0 : 0 ≤ s.toInt) (hk : ∀ (o : Nat) (n1 f1 : Int32), ty_nx e s n f n1 f1 → s_wp 19 sM_110 9 (ty_lvm o s1 n1 f1 (ty_b e s) e) [] hs dc ds P) : s_wp 19 sM_110 9 [(5, .int s), (6, .int c), (4, .int f), (3, .int n), (0, .ref 30), (1, .long e)] [] (hs) dc ds P := by
  subst hs1
  refine w_mv (pc1 := 11) (st1 := [.int s]) rfl rfl rfl ?_
  refine w_zlt_F (pc1 := 14) rfl (by decide) rfl (show 0 ≤ s.toInt by omega) ?_
  refine w_mv (pc1 := 15) (st1 := [.long e]) rfl rfl rfl ?_
  refine w_mv (pc1 := 17) (st1 := [.int s, .long e]) rfl rfl rfl ?_
  refine w_mv (pc1 := 18) (st1 := [.long (UInt64.toInt64 (Int64.toUInt64 e >>> (Int64.toUInt64 (Int32.toInt64 s) &&& Int64.toUInt64 63)))]) rfl rfl rfl ?_
  refine w_mv (pc1 := 19) (st1 := [.int (Int64.toInt32 (UInt64.toInt64 (Int64.toUInt64 e >>> (Int64.toUInt64 (Int32.toInt64 s) &&& Int64.toUInt64 63))))]) rfl rfl rfl ?_
  refine w_mv (pc1 := 22) (st1 := [.int 255, .int (Int64.toInt32 (UInt64.toInt64 (Int64.toUInt64 e >>> (Int64.toUInt64 (Int32.toInt64 s) &&& Int64.toUInt64 63))))]) rfl rfl rfl ?_
  refine w_mv (pc1 := 23) (st1 := [.int (ty_b e s)]) rfl rfl rfl ?_
  refine w_mv (pc1 := 25) (lv1 := [(6, .int (ty_b e s)), (5, .int s), (4, .int f), (3, .int n), (0, .ref 30), (1, .long e)]) (st1 := []) rfl rfl rfl ?_
  refine w_mv (pc1 := 27) (st1 := [.int (ty_b e s)]) rfl rfl rfl ?_
  by_cases h1 : (ty_b e s).toInt = 0
  ·
    refine w_zeq_T (pc1 := 33) rfl rfl (show (ty_b e s).toInt = 0 by omega) ?_
    refine w_mv (pc1 := 35) (st1 := [.int (ty_b e s)]) rfl rfl rfl ?_
    refine w_zeq_T (pc1 := 53) rfl rfl (show (ty_b e s).toInt = 0 by omega) ?_
    refine w_mv (pc1 := 56) (lv1 := [(5, .int (s + (-8))), (6, .int (ty_b e s)), (4, .int f), (3, .int n), (0, .ref 30), (1, .long e)]) (st1 := []) rfl rfl rfl ?_
    refine w_mv (pc1 := 9) (st1 := []) rfl rfl rfl ?_
    exact hk 0 n f (Or.inl ⟨by omega, rfl, rfl⟩)
  ·
    refine w_zeq_F (pc1 := 30) rfl (by decide) rfl (show (ty_b e s).toInt ≠ 0 by omega) ?_
    refine w_mv (pc1 := 33) (lv1 := [(3, .int (n + 1)), (6, .int (ty_b e s)), (5, .int s), (4, .int f), (0, .ref 30), (1, .long e)]) (st1 := []) rfl rfl rfl ?_
    refine w_mv (pc1 := 35) (st1 := [.int (ty_b e s)]) rfl rfl rfl ?_
    by_cases h2 : (ty_b e s).toInt = 0
    ·
      refine w_zeq_T (pc1 := 53) rfl rfl (show (ty_b e s).toInt = 0 by omega) ?_
      refine w_mv (pc1 := 56) (lv1 := [(5, .int (s + (-8))), (3, .int (n + 1)), (6, .int (ty_b e s)), (4, .int f), (0, .ref 30), (1, .long e)]) (st1 := []) rfl rfl rfl ?_
      refine w_mv (pc1 := 9) (st1 := []) rfl rfl rfl ?_
      exact hk 2 (n + 1) f (Or.inr (Or.inl ⟨⟨by omega, fun q => by have := q.2; omega⟩, rfl, rfl⟩))
    ·
      refine w_zeq_F (pc1 := 38) rfl (by decide) rfl (show (ty_b e s).toInt ≠ 0 by omega) ?_
      refine w_mv (pc1 := 40) (st1 := [.int (ty_b e s)]) rfl rfl rfl ?_
      refine w_mv (pc1 := 42) (st1 := [.int 33, .int (ty_b e s)]) rfl rfl rfl ?_
      refine w_mv (pc1 := 44) (st1 := [.int 126, .int 33, .int (ty_b e s)]) rfl rfl rfl ?_
      refine w_call (M' := sM_111) (vals := [.int (ty_b e s), .int 33, .int 126]) (rest := []) (lv' := [(0, .int (ty_b e s)), (1, .int 33), (2, .int 126)]) rfl rfl rfl rfl rfl rfl rfl rfl rfl rfl ?_
      refine w_mv (pc1 := 1) (st1 := [.int (ty_b e s)]) rfl rfl rfl ?_
      refine w_mv (pc1 := 2) (st1 := [.int 33, .int (ty_b e s)]) rfl rfl rfl ?_
      by_cases h3 : (ty_b e s).toInt < 33
      ·
        refine w_ilt_T (pc1 := 14) rfl rfl (show (ty_b e s).toInt < 33 by omega) ?_
        refine w_mv (pc1 := 15) (st1 := [.int 0]) rfl rfl rfl ?_
        refine w_iret (pc1 := 47) rfl rfl rfl rfl ?_
        refine w_mv (pc1 := 50) (st1 := []) rfl rfl rfl ?_
        refine w_mv (pc1 := 51) (st1 := [.int 0]) rfl rfl rfl ?_
        refine w_mv (pc1 := 53) (lv1 := [(4, .int 0), (3, .int (n + 1)), (6, .int (ty_b e s)), (5, .int s), (0, .ref 30), (1, .long e)]) (st1 := []) rfl rfl rfl ?_
        refine w_mv (pc1 := 56) (lv1 := [(5, .int (s + (-8))), (4, .int 0), (3, .int (n + 1)), (6, .int (ty_b e s)), (0, .ref 30), (1, .long e)]) (st1 := []) rfl rfl rfl ?_
        refine w_mv (pc1 := 9) (st1 := []) rfl rfl rfl ?_
        exact hk 3 (n + 1) 0 (Or.inr (Or.inr ⟨⟨by omega, by omega⟩, rfl, rfl⟩))
      ·
        refine w_ilt_F (pc1 := 5) rfl (by decide) rfl (show 33 ≤ (ty_b e s).toInt by omega) ?_
        refine w_mv (pc1 := 6) (st1 := [.int (ty_b e s)]) rfl rfl rfl ?_
        refine w_mv (pc1 := 7) (st1 := [.int 126, .int (ty_b e s)]) rfl rfl rfl ?_
        by_cases h4 : 126 < (ty_b e s).toInt
        ·
          refine w_igt_T (pc1 := 14) rfl rfl (show 126 < (ty_b e s).toInt by omega) ?_
          refine w_mv (pc1 := 15) (st1 := [.int 0]) rfl rfl rfl ?_
          refine w_iret (pc1 := 47) rfl rfl rfl rfl ?_
          refine w_mv (pc1 := 50) (st1 := []) rfl rfl rfl ?_
          refine w_mv (pc1 := 51) (st1 := [.int 0]) rfl rfl rfl ?_
          refine w_mv (pc1 := 53) (lv1 := [(4, .int 0), (3, .int (n + 1)), (6, .int (ty_b e s)), (5, .int s), (0, .ref 30), (1, .long e)]) (st1 := []) rfl rfl rfl ?_
          refine w_mv (pc1 := 56) (lv1 := [(5, .int (s + (-8))), (4, .int 0), (3, .int (n + 1)), (6, .int (ty_b e s)), (0, .ref 30), (1, .long e)]) (st1 := []) rfl rfl rfl ?_
          refine w_mv (pc1 := 9) (st1 := []) rfl rfl rfl ?_
          exact hk 3 (n + 1) 0 (Or.inr (Or.inr ⟨⟨by omega, by omega⟩, rfl, rfl⟩))
        ·
          refine w_igt_F (pc1 := 10) rfl (by decide) rfl (show (ty_b e s).toInt ≤ 126 by omega) ?_
          refine w_mv (pc1 := 11) (st1 := [.int 1]) rfl rfl rfl ?_
          refine w_mv (pc1 := 15) (st1 := [.int 1]) rfl rfl rfl ?_
          refine w_iret (pc1 := 47) rfl rfl rfl rfl ?_
          refine w_mv (pc1 := 53) (st1 := []) rfl rfl rfl ?_
          refine w_mv (pc1 := 56) (lv1 := [(5, .int (s + (-8))), (3, .int (n + 1)), (6, .int (ty_b e s)), (4, .int f), (0, .ref 30), (1, .long e)]) (st1 := []) rfl rfl rfl ?_
          refine w_mv (pc1 := 9) (st1 := []) rfl rfl rfl ?_
          exact hk 2 (n + 1) f (Or.inr (Or.inl ⟨⟨by omega, fun q => by have := q.2; omega⟩, rfl, rfl⟩))
set_option maxRecDepth 20000 in
set_option maxHeartbeats 4000000 in
theorem ty_i3_1 {e : Int64} {hs : sx_H} {dc ds : Nat} {P : Option Value ⊕ Nat → sx_H → Nat → Nat → Prop} {s s1 n f c : Int32} (hs1 : s + (-8) = s1) (h0 : 0 ≤ s.toInt) (hk : ∀ (o : Nat) (n1 f1 : Int32), ty_nx e s n f n1 f1 → s_wp 19 sM_110 9 (ty_lvm o s1 n1 f1 (ty_b e s) e) [] hs dc ds P) : s_wp 19 sM_110 9 [(5, .int s), (6, .int c), (3, .int n), (4, .int f), (0, .ref 30), (1, .long e)] [] (hs) dc ds P := by
  subst hs1
  refine w_mv (pc1 := 11) (st1 := [.int s]) rfl rfl rfl ?_
  refine w_zlt_F (pc1 := 14) rfl (by decide) rfl (show 0 ≤ s.toInt by omega) ?_
  refine w_mv (pc1 := 15) (st1 := [.long e]) rfl rfl rfl ?_
  refine w_mv (pc1 := 17) (st1 := [.int s, .long e]) rfl rfl rfl ?_
  refine w_mv (pc1 := 18) (st1 := [.long (UInt64.toInt64 (Int64.toUInt64 e >>> (Int64.toUInt64 (Int32.toInt64 s) &&& Int64.toUInt64 63)))]) rfl rfl rfl ?_
  refine w_mv (pc1 := 19) (st1 := [.int (Int64.toInt32 (UInt64.toInt64 (Int64.toUInt64 e >>> (Int64.toUInt64 (Int32.toInt64 s) &&& Int64.toUInt64 63))))]) rfl rfl rfl ?_
  refine w_mv (pc1 := 22) (st1 := [.int 255, .int (Int64.toInt32 (UInt64.toInt64 (Int64.toUInt64 e >>> (Int64.toUInt64 (Int32.toInt64 s) &&& Int64.toUInt64 63))))]) rfl rfl rfl ?_
  refine w_mv (pc1 := 23) (st1 := [.int (ty_b e s)]) rfl rfl rfl ?_
  refine w_mv (pc1 := 25) (lv1 := [(6, .int (ty_b e s)), (5, .int s), (3, .int n), (4, .int f), (0, .ref 30), (1, .long e)]) (st1 := []) rfl rfl rfl ?_
  refine w_mv (pc1 := 27) (st1 := [.int (ty_b e s)]) rfl rfl rfl ?_
  by_cases h1 : (ty_b e s).toInt = 0
  ·
    refine w_zeq_T (pc1 := 33) rfl rfl (show (ty_b e s).toInt = 0 by omega) ?_
    refine w_mv (pc1 := 35) (st1 := [.int (ty_b e s)]) rfl rfl rfl ?_
    refine w_zeq_T (pc1 := 53) rfl rfl (show (ty_b e s).toInt = 0 by omega) ?_
    refine w_mv (pc1 := 56) (lv1 := [(5, .int (s + (-8))), (6, .int (ty_b e s)), (3, .int n), (4, .int f), (0, .ref 30), (1, .long e)]) (st1 := []) rfl rfl rfl ?_
    refine w_mv (pc1 := 9) (st1 := []) rfl rfl rfl ?_
    exact hk 1 n f (Or.inl ⟨by omega, rfl, rfl⟩)
  ·
    refine w_zeq_F (pc1 := 30) rfl (by decide) rfl (show (ty_b e s).toInt ≠ 0 by omega) ?_
    refine w_mv (pc1 := 33) (lv1 := [(3, .int (n + 1)), (6, .int (ty_b e s)), (5, .int s), (4, .int f), (0, .ref 30), (1, .long e)]) (st1 := []) rfl rfl rfl ?_
    refine w_mv (pc1 := 35) (st1 := [.int (ty_b e s)]) rfl rfl rfl ?_
    by_cases h2 : (ty_b e s).toInt = 0
    ·
      refine w_zeq_T (pc1 := 53) rfl rfl (show (ty_b e s).toInt = 0 by omega) ?_
      refine w_mv (pc1 := 56) (lv1 := [(5, .int (s + (-8))), (3, .int (n + 1)), (6, .int (ty_b e s)), (4, .int f), (0, .ref 30), (1, .long e)]) (st1 := []) rfl rfl rfl ?_
      refine w_mv (pc1 := 9) (st1 := []) rfl rfl rfl ?_
      exact hk 2 (n + 1) f (Or.inr (Or.inl ⟨⟨by omega, fun q => by have := q.2; omega⟩, rfl, rfl⟩))
    ·
      refine w_zeq_F (pc1 := 38) rfl (by decide) rfl (show (ty_b e s).toInt ≠ 0 by omega) ?_
      refine w_mv (pc1 := 40) (st1 := [.int (ty_b e s)]) rfl rfl rfl ?_
      refine w_mv (pc1 := 42) (st1 := [.int 33, .int (ty_b e s)]) rfl rfl rfl ?_
      refine w_mv (pc1 := 44) (st1 := [.int 126, .int 33, .int (ty_b e s)]) rfl rfl rfl ?_
      refine w_call (M' := sM_111) (vals := [.int (ty_b e s), .int 33, .int 126]) (rest := []) (lv' := [(0, .int (ty_b e s)), (1, .int 33), (2, .int 126)]) rfl rfl rfl rfl rfl rfl rfl rfl rfl rfl ?_
      refine w_mv (pc1 := 1) (st1 := [.int (ty_b e s)]) rfl rfl rfl ?_
      refine w_mv (pc1 := 2) (st1 := [.int 33, .int (ty_b e s)]) rfl rfl rfl ?_
      by_cases h3 : (ty_b e s).toInt < 33
      ·
        refine w_ilt_T (pc1 := 14) rfl rfl (show (ty_b e s).toInt < 33 by omega) ?_
        refine w_mv (pc1 := 15) (st1 := [.int 0]) rfl rfl rfl ?_
        refine w_iret (pc1 := 47) rfl rfl rfl rfl ?_
        refine w_mv (pc1 := 50) (st1 := []) rfl rfl rfl ?_
        refine w_mv (pc1 := 51) (st1 := [.int 0]) rfl rfl rfl ?_
        refine w_mv (pc1 := 53) (lv1 := [(4, .int 0), (3, .int (n + 1)), (6, .int (ty_b e s)), (5, .int s), (0, .ref 30), (1, .long e)]) (st1 := []) rfl rfl rfl ?_
        refine w_mv (pc1 := 56) (lv1 := [(5, .int (s + (-8))), (4, .int 0), (3, .int (n + 1)), (6, .int (ty_b e s)), (0, .ref 30), (1, .long e)]) (st1 := []) rfl rfl rfl ?_
        refine w_mv (pc1 := 9) (st1 := []) rfl rfl rfl ?_
        exact hk 3 (n + 1) 0 (Or.inr (Or.inr ⟨⟨by omega, by omega⟩, rfl, rfl⟩))
      ·
        refine w_ilt_F (pc1 := 5) rfl (by decide) rfl (show 33 ≤ (ty_b e s).toInt by omega) ?_
        refine w_mv (pc1 := 6) (st1 := [.int (ty_b e s)]) rfl rfl rfl ?_
        refine w_mv (pc1 := 7) (st1 := [.int 126, .int (ty_b e s)]) rfl rfl rfl ?_
        by_cases h4 : 126 < (ty_b e s).toInt
        ·
          refine w_igt_T (pc1 := 14) rfl rfl (show 126 < (ty_b e s).toInt by omega) ?_
          refine w_mv (pc1 := 15) (st1 := [.int 0]) rfl rfl rfl ?_
          refine w_iret (pc1 := 47) rfl rfl rfl rfl ?_
          refine w_mv (pc1 := 50) (st1 := []) rfl rfl rfl ?_
          refine w_mv (pc1 := 51) (st1 := [.int 0]) rfl rfl rfl ?_
          refine w_mv (pc1 := 53) (lv1 := [(4, .int 0), (3, .int (n + 1)), (6, .int (ty_b e s)), (5, .int s), (0, .ref 30), (1, .long e)]) (st1 := []) rfl rfl rfl ?_
          refine w_mv (pc1 := 56) (lv1 := [(5, .int (s + (-8))), (4, .int 0), (3, .int (n + 1)), (6, .int (ty_b e s)), (0, .ref 30), (1, .long e)]) (st1 := []) rfl rfl rfl ?_
          refine w_mv (pc1 := 9) (st1 := []) rfl rfl rfl ?_
          exact hk 3 (n + 1) 0 (Or.inr (Or.inr ⟨⟨by omega, by omega⟩, rfl, rfl⟩))
        ·
          refine w_igt_F (pc1 := 10) rfl (by decide) rfl (show (ty_b e s).toInt ≤ 126 by omega) ?_
          refine w_mv (pc1 := 11) (st1 := [.int 1]) rfl rfl rfl ?_
          refine w_mv (pc1 := 15) (st1 := [.int 1]) rfl rfl rfl ?_
          refine w_iret (pc1 := 47) rfl rfl rfl rfl ?_
          refine w_mv (pc1 := 53) (st1 := []) rfl rfl rfl ?_
          refine w_mv (pc1 := 56) (lv1 := [(5, .int (s + (-8))), (3, .int (n + 1)), (6, .int (ty_b e s)), (4, .int f), (0, .ref 30), (1, .long e)]) (st1 := []) rfl rfl rfl ?_
          refine w_mv (pc1 := 9) (st1 := []) rfl rfl rfl ?_
          exact hk 2 (n + 1) f (Or.inr (Or.inl ⟨⟨by omega, fun q => by have := q.2; omega⟩, rfl, rfl⟩))
set_option maxRecDepth 20000 in
set_option maxHeartbeats 4000000 in
theorem ty_i3_2 {e : Int64} {hs : sx_H} {dc ds : Nat} {P : Option Value ⊕ Nat → sx_H → Nat → Nat → Prop} {s s1 n f c : Int32} (hs1 : s + (-8) = s1) (h0 : 0 ≤ s.toInt) (hk : ∀ (o : Nat) (n1 f1 : Int32), ty_nx e s n f n1 f1 → s_wp 19 sM_110 9 (ty_lvm o s1 n1 f1 (ty_b e s) e) [] hs dc ds P) : s_wp 19 sM_110 9 [(5, .int s), (3, .int n), (6, .int c), (4, .int f), (0, .ref 30), (1, .long e)] [] (hs) dc ds P := by
  subst hs1
  refine w_mv (pc1 := 11) (st1 := [.int s]) rfl rfl rfl ?_
  refine w_zlt_F (pc1 := 14) rfl (by decide) rfl (show 0 ≤ s.toInt by omega) ?_
  refine w_mv (pc1 := 15) (st1 := [.long e]) rfl rfl rfl ?_
  refine w_mv (pc1 := 17) (st1 := [.int s, .long e]) rfl rfl rfl ?_
  refine w_mv (pc1 := 18) (st1 := [.long (UInt64.toInt64 (Int64.toUInt64 e >>> (Int64.toUInt64 (Int32.toInt64 s) &&& Int64.toUInt64 63)))]) rfl rfl rfl ?_
  refine w_mv (pc1 := 19) (st1 := [.int (Int64.toInt32 (UInt64.toInt64 (Int64.toUInt64 e >>> (Int64.toUInt64 (Int32.toInt64 s) &&& Int64.toUInt64 63))))]) rfl rfl rfl ?_
  refine w_mv (pc1 := 22) (st1 := [.int 255, .int (Int64.toInt32 (UInt64.toInt64 (Int64.toUInt64 e >>> (Int64.toUInt64 (Int32.toInt64 s) &&& Int64.toUInt64 63))))]) rfl rfl rfl ?_
  refine w_mv (pc1 := 23) (st1 := [.int (ty_b e s)]) rfl rfl rfl ?_
  refine w_mv (pc1 := 25) (lv1 := [(6, .int (ty_b e s)), (5, .int s), (3, .int n), (4, .int f), (0, .ref 30), (1, .long e)]) (st1 := []) rfl rfl rfl ?_
  refine w_mv (pc1 := 27) (st1 := [.int (ty_b e s)]) rfl rfl rfl ?_
  by_cases h1 : (ty_b e s).toInt = 0
  ·
    refine w_zeq_T (pc1 := 33) rfl rfl (show (ty_b e s).toInt = 0 by omega) ?_
    refine w_mv (pc1 := 35) (st1 := [.int (ty_b e s)]) rfl rfl rfl ?_
    refine w_zeq_T (pc1 := 53) rfl rfl (show (ty_b e s).toInt = 0 by omega) ?_
    refine w_mv (pc1 := 56) (lv1 := [(5, .int (s + (-8))), (6, .int (ty_b e s)), (3, .int n), (4, .int f), (0, .ref 30), (1, .long e)]) (st1 := []) rfl rfl rfl ?_
    refine w_mv (pc1 := 9) (st1 := []) rfl rfl rfl ?_
    exact hk 1 n f (Or.inl ⟨by omega, rfl, rfl⟩)
  ·
    refine w_zeq_F (pc1 := 30) rfl (by decide) rfl (show (ty_b e s).toInt ≠ 0 by omega) ?_
    refine w_mv (pc1 := 33) (lv1 := [(3, .int (n + 1)), (6, .int (ty_b e s)), (5, .int s), (4, .int f), (0, .ref 30), (1, .long e)]) (st1 := []) rfl rfl rfl ?_
    refine w_mv (pc1 := 35) (st1 := [.int (ty_b e s)]) rfl rfl rfl ?_
    by_cases h2 : (ty_b e s).toInt = 0
    ·
      refine w_zeq_T (pc1 := 53) rfl rfl (show (ty_b e s).toInt = 0 by omega) ?_
      refine w_mv (pc1 := 56) (lv1 := [(5, .int (s + (-8))), (3, .int (n + 1)), (6, .int (ty_b e s)), (4, .int f), (0, .ref 30), (1, .long e)]) (st1 := []) rfl rfl rfl ?_
      refine w_mv (pc1 := 9) (st1 := []) rfl rfl rfl ?_
      exact hk 2 (n + 1) f (Or.inr (Or.inl ⟨⟨by omega, fun q => by have := q.2; omega⟩, rfl, rfl⟩))
    ·
      refine w_zeq_F (pc1 := 38) rfl (by decide) rfl (show (ty_b e s).toInt ≠ 0 by omega) ?_
      refine w_mv (pc1 := 40) (st1 := [.int (ty_b e s)]) rfl rfl rfl ?_
      refine w_mv (pc1 := 42) (st1 := [.int 33, .int (ty_b e s)]) rfl rfl rfl ?_
      refine w_mv (pc1 := 44) (st1 := [.int 126, .int 33, .int (ty_b e s)]) rfl rfl rfl ?_
      refine w_call (M' := sM_111) (vals := [.int (ty_b e s), .int 33, .int 126]) (rest := []) (lv' := [(0, .int (ty_b e s)), (1, .int 33), (2, .int 126)]) rfl rfl rfl rfl rfl rfl rfl rfl rfl rfl ?_
      refine w_mv (pc1 := 1) (st1 := [.int (ty_b e s)]) rfl rfl rfl ?_
      refine w_mv (pc1 := 2) (st1 := [.int 33, .int (ty_b e s)]) rfl rfl rfl ?_
      by_cases h3 : (ty_b e s).toInt < 33
      ·
        refine w_ilt_T (pc1 := 14) rfl rfl (show (ty_b e s).toInt < 33 by omega) ?_
        refine w_mv (pc1 := 15) (st1 := [.int 0]) rfl rfl rfl ?_
        refine w_iret (pc1 := 47) rfl rfl rfl rfl ?_
        refine w_mv (pc1 := 50) (st1 := []) rfl rfl rfl ?_
        refine w_mv (pc1 := 51) (st1 := [.int 0]) rfl rfl rfl ?_
        refine w_mv (pc1 := 53) (lv1 := [(4, .int 0), (3, .int (n + 1)), (6, .int (ty_b e s)), (5, .int s), (0, .ref 30), (1, .long e)]) (st1 := []) rfl rfl rfl ?_
        refine w_mv (pc1 := 56) (lv1 := [(5, .int (s + (-8))), (4, .int 0), (3, .int (n + 1)), (6, .int (ty_b e s)), (0, .ref 30), (1, .long e)]) (st1 := []) rfl rfl rfl ?_
        refine w_mv (pc1 := 9) (st1 := []) rfl rfl rfl ?_
        exact hk 3 (n + 1) 0 (Or.inr (Or.inr ⟨⟨by omega, by omega⟩, rfl, rfl⟩))
      ·
        refine w_ilt_F (pc1 := 5) rfl (by decide) rfl (show 33 ≤ (ty_b e s).toInt by omega) ?_
        refine w_mv (pc1 := 6) (st1 := [.int (ty_b e s)]) rfl rfl rfl ?_
        refine w_mv (pc1 := 7) (st1 := [.int 126, .int (ty_b e s)]) rfl rfl rfl ?_
        by_cases h4 : 126 < (ty_b e s).toInt
        ·
          refine w_igt_T (pc1 := 14) rfl rfl (show 126 < (ty_b e s).toInt by omega) ?_
          refine w_mv (pc1 := 15) (st1 := [.int 0]) rfl rfl rfl ?_
          refine w_iret (pc1 := 47) rfl rfl rfl rfl ?_
          refine w_mv (pc1 := 50) (st1 := []) rfl rfl rfl ?_
          refine w_mv (pc1 := 51) (st1 := [.int 0]) rfl rfl rfl ?_
          refine w_mv (pc1 := 53) (lv1 := [(4, .int 0), (3, .int (n + 1)), (6, .int (ty_b e s)), (5, .int s), (0, .ref 30), (1, .long e)]) (st1 := []) rfl rfl rfl ?_
          refine w_mv (pc1 := 56) (lv1 := [(5, .int (s + (-8))), (4, .int 0), (3, .int (n + 1)), (6, .int (ty_b e s)), (0, .ref 30), (1, .long e)]) (st1 := []) rfl rfl rfl ?_
          refine w_mv (pc1 := 9) (st1 := []) rfl rfl rfl ?_
          exact hk 3 (n + 1) 0 (Or.inr (Or.inr ⟨⟨by omega, by omega⟩, rfl, rfl⟩))
        ·
          refine w_igt_F (pc1 := 10) rfl (by decide) rfl (show (ty_b e s).toInt ≤ 126 by omega) ?_
          refine w_mv (pc1 := 11) (st1 := [.int 1]) rfl rfl rfl ?_
          refine w_mv (pc1 := 15) (st1 := [.int 1]) rfl rfl rfl ?_
          refine w_iret (pc1 := 47) rfl rfl rfl rfl ?_
          refine w_mv (pc1 := 53) (st1 := []) rfl rfl rfl ?_
          refine w_mv (pc1 := 56) (lv1 := [(5, .int (s + (-8))), (3, .int (n + 1)), (6, .int (ty_b e s)), (4, .int f), (0, .ref 30), (1, .long e)]) (st1 := []) rfl rfl rfl ?_
          refine w_mv (pc1 := 9) (st1 := []) rfl rfl rfl ?_
          exact hk 2 (n + 1) f (Or.inr (Or.inl ⟨⟨by omega, fun q => by have := q.2; omega⟩, rfl, rfl⟩))
set_option maxRecDepth 20000 in
set_option maxHeartbeats 4000000 in
theorem ty_i3_3 {e : Int64} {hs : sx_H} {dc ds : Nat} {P : Option Value ⊕ Nat → sx_H → Nat → Nat → Prop} {s s1 n f c : Int32} (hs1 : s + (-8) = s1) (h0 : 0 ≤ s.toInt) (hk : ∀ (o : Nat) (n1 f1 : Int32), ty_nx e s n f n1 f1 → s_wp 19 sM_110 9 (ty_lvm o s1 n1 f1 (ty_b e s) e) [] hs dc ds P) : s_wp 19 sM_110 9 [(5, .int s), (4, .int f), (3, .int n), (6, .int c), (0, .ref 30), (1, .long e)] [] (hs) dc ds P := by
  subst hs1
  refine w_mv (pc1 := 11) (st1 := [.int s]) rfl rfl rfl ?_
  refine w_zlt_F (pc1 := 14) rfl (by decide) rfl (show 0 ≤ s.toInt by omega) ?_
  refine w_mv (pc1 := 15) (st1 := [.long e]) rfl rfl rfl ?_
  refine w_mv (pc1 := 17) (st1 := [.int s, .long e]) rfl rfl rfl ?_
  refine w_mv (pc1 := 18) (st1 := [.long (UInt64.toInt64 (Int64.toUInt64 e >>> (Int64.toUInt64 (Int32.toInt64 s) &&& Int64.toUInt64 63)))]) rfl rfl rfl ?_
  refine w_mv (pc1 := 19) (st1 := [.int (Int64.toInt32 (UInt64.toInt64 (Int64.toUInt64 e >>> (Int64.toUInt64 (Int32.toInt64 s) &&& Int64.toUInt64 63))))]) rfl rfl rfl ?_
  refine w_mv (pc1 := 22) (st1 := [.int 255, .int (Int64.toInt32 (UInt64.toInt64 (Int64.toUInt64 e >>> (Int64.toUInt64 (Int32.toInt64 s) &&& Int64.toUInt64 63))))]) rfl rfl rfl ?_
  refine w_mv (pc1 := 23) (st1 := [.int (ty_b e s)]) rfl rfl rfl ?_
  refine w_mv (pc1 := 25) (lv1 := [(6, .int (ty_b e s)), (5, .int s), (4, .int f), (3, .int n), (0, .ref 30), (1, .long e)]) (st1 := []) rfl rfl rfl ?_
  refine w_mv (pc1 := 27) (st1 := [.int (ty_b e s)]) rfl rfl rfl ?_
  by_cases h1 : (ty_b e s).toInt = 0
  ·
    refine w_zeq_T (pc1 := 33) rfl rfl (show (ty_b e s).toInt = 0 by omega) ?_
    refine w_mv (pc1 := 35) (st1 := [.int (ty_b e s)]) rfl rfl rfl ?_
    refine w_zeq_T (pc1 := 53) rfl rfl (show (ty_b e s).toInt = 0 by omega) ?_
    refine w_mv (pc1 := 56) (lv1 := [(5, .int (s + (-8))), (6, .int (ty_b e s)), (4, .int f), (3, .int n), (0, .ref 30), (1, .long e)]) (st1 := []) rfl rfl rfl ?_
    refine w_mv (pc1 := 9) (st1 := []) rfl rfl rfl ?_
    exact hk 0 n f (Or.inl ⟨by omega, rfl, rfl⟩)
  ·
    refine w_zeq_F (pc1 := 30) rfl (by decide) rfl (show (ty_b e s).toInt ≠ 0 by omega) ?_
    refine w_mv (pc1 := 33) (lv1 := [(3, .int (n + 1)), (6, .int (ty_b e s)), (5, .int s), (4, .int f), (0, .ref 30), (1, .long e)]) (st1 := []) rfl rfl rfl ?_
    refine w_mv (pc1 := 35) (st1 := [.int (ty_b e s)]) rfl rfl rfl ?_
    by_cases h2 : (ty_b e s).toInt = 0
    ·
      refine w_zeq_T (pc1 := 53) rfl rfl (show (ty_b e s).toInt = 0 by omega) ?_
      refine w_mv (pc1 := 56) (lv1 := [(5, .int (s + (-8))), (3, .int (n + 1)), (6, .int (ty_b e s)), (4, .int f), (0, .ref 30), (1, .long e)]) (st1 := []) rfl rfl rfl ?_
      refine w_mv (pc1 := 9) (st1 := []) rfl rfl rfl ?_
      exact hk 2 (n + 1) f (Or.inr (Or.inl ⟨⟨by omega, fun q => by have := q.2; omega⟩, rfl, rfl⟩))
    ·
      refine w_zeq_F (pc1 := 38) rfl (by decide) rfl (show (ty_b e s).toInt ≠ 0 by omega) ?_
      refine w_mv (pc1 := 40) (st1 := [.int (ty_b e s)]) rfl rfl rfl ?_
      refine w_mv (pc1 := 42) (st1 := [.int 33, .int (ty_b e s)]) rfl rfl rfl ?_
      refine w_mv (pc1 := 44) (st1 := [.int 126, .int 33, .int (ty_b e s)]) rfl rfl rfl ?_
      refine w_call (M' := sM_111) (vals := [.int (ty_b e s), .int 33, .int 126]) (rest := []) (lv' := [(0, .int (ty_b e s)), (1, .int 33), (2, .int 126)]) rfl rfl rfl rfl rfl rfl rfl rfl rfl rfl ?_
      refine w_mv (pc1 := 1) (st1 := [.int (ty_b e s)]) rfl rfl rfl ?_
      refine w_mv (pc1 := 2) (st1 := [.int 33, .int (ty_b e s)]) rfl rfl rfl ?_
      by_cases h3 : (ty_b e s).toInt < 33
      ·
        refine w_ilt_T (pc1 := 14) rfl rfl (show (ty_b e s).toInt < 33 by omega) ?_
        refine w_mv (pc1 := 15) (st1 := [.int 0]) rfl rfl rfl ?_
        refine w_iret (pc1 := 47) rfl rfl rfl rfl ?_
        refine w_mv (pc1 := 50) (st1 := []) rfl rfl rfl ?_
        refine w_mv (pc1 := 51) (st1 := [.int 0]) rfl rfl rfl ?_
        refine w_mv (pc1 := 53) (lv1 := [(4, .int 0), (3, .int (n + 1)), (6, .int (ty_b e s)), (5, .int s), (0, .ref 30), (1, .long e)]) (st1 := []) rfl rfl rfl ?_
        refine w_mv (pc1 := 56) (lv1 := [(5, .int (s + (-8))), (4, .int 0), (3, .int (n + 1)), (6, .int (ty_b e s)), (0, .ref 30), (1, .long e)]) (st1 := []) rfl rfl rfl ?_
        refine w_mv (pc1 := 9) (st1 := []) rfl rfl rfl ?_
        exact hk 3 (n + 1) 0 (Or.inr (Or.inr ⟨⟨by omega, by omega⟩, rfl, rfl⟩))
      ·
        refine w_ilt_F (pc1 := 5) rfl (by decide) rfl (show 33 ≤ (ty_b e s).toInt by omega) ?_
        refine w_mv (pc1 := 6) (st1 := [.int (ty_b e s)]) rfl rfl rfl ?_
        refine w_mv (pc1 := 7) (st1 := [.int 126, .int (ty_b e s)]) rfl rfl rfl ?_
        by_cases h4 : 126 < (ty_b e s).toInt
        ·
          refine w_igt_T (pc1 := 14) rfl rfl (show 126 < (ty_b e s).toInt by omega) ?_
          refine w_mv (pc1 := 15) (st1 := [.int 0]) rfl rfl rfl ?_
          refine w_iret (pc1 := 47) rfl rfl rfl rfl ?_
          refine w_mv (pc1 := 50) (st1 := []) rfl rfl rfl ?_
          refine w_mv (pc1 := 51) (st1 := [.int 0]) rfl rfl rfl ?_
          refine w_mv (pc1 := 53) (lv1 := [(4, .int 0), (3, .int (n + 1)), (6, .int (ty_b e s)), (5, .int s), (0, .ref 30), (1, .long e)]) (st1 := []) rfl rfl rfl ?_
          refine w_mv (pc1 := 56) (lv1 := [(5, .int (s + (-8))), (4, .int 0), (3, .int (n + 1)), (6, .int (ty_b e s)), (0, .ref 30), (1, .long e)]) (st1 := []) rfl rfl rfl ?_
          refine w_mv (pc1 := 9) (st1 := []) rfl rfl rfl ?_
          exact hk 3 (n + 1) 0 (Or.inr (Or.inr ⟨⟨by omega, by omega⟩, rfl, rfl⟩))
        ·
          refine w_igt_F (pc1 := 10) rfl (by decide) rfl (show (ty_b e s).toInt ≤ 126 by omega) ?_
          refine w_mv (pc1 := 11) (st1 := [.int 1]) rfl rfl rfl ?_
          refine w_mv (pc1 := 15) (st1 := [.int 1]) rfl rfl rfl ?_
          refine w_iret (pc1 := 47) rfl rfl rfl rfl ?_
          refine w_mv (pc1 := 53) (st1 := []) rfl rfl rfl ?_
          refine w_mv (pc1 := 56) (lv1 := [(5, .int (s + (-8))), (3, .int (n + 1)), (6, .int (ty_b e s)), (4, .int f), (0, .ref 30), (1, .long e)]) (st1 := []) rfl rfl rfl ?_
          refine w_mv (pc1 := 9) (st1 := []) rfl rfl rfl ?_
          exact hk 2 (n + 1) f (Or.inr (Or.inl ⟨⟨by omega, fun q => by have := q.2; omega⟩, rfl, rfl⟩))
set_option maxRecDepth 20000 in
set_option maxHeartbeats 4000000 in
theorem ty_i3_4 {e : Int64} {hs : sx_H} {dc ds : Nat} {P : Option Value ⊕ Nat → sx_H → Nat → Nat → Prop} {s s1 n f c : Int32} (hs1 : s + (-8) = s1) (h0 : 0 ≤ s.toInt) (hk : ∀ (o : Nat) (n1 f1 : Int32), ty_nx e s n f n1 f1 → s_wp 19 sM_110 9 (ty_lvm o s1 n1 f1 (ty_b e s) e) [] hs dc ds P) : s_wp 19 sM_110 9 [(5, .int s), (4, .int f), (3, .int n), (0, .ref 30), (1, .long e)] [] (hs) dc ds P := by
  subst hs1
  refine w_mv (pc1 := 11) (st1 := [.int s]) rfl rfl rfl ?_
  refine w_zlt_F (pc1 := 14) rfl (by decide) rfl (show 0 ≤ s.toInt by omega) ?_
  refine w_mv (pc1 := 15) (st1 := [.long e]) rfl rfl rfl ?_
  refine w_mv (pc1 := 17) (st1 := [.int s, .long e]) rfl rfl rfl ?_
  refine w_mv (pc1 := 18) (st1 := [.long (UInt64.toInt64 (Int64.toUInt64 e >>> (Int64.toUInt64 (Int32.toInt64 s) &&& Int64.toUInt64 63)))]) rfl rfl rfl ?_
  refine w_mv (pc1 := 19) (st1 := [.int (Int64.toInt32 (UInt64.toInt64 (Int64.toUInt64 e >>> (Int64.toUInt64 (Int32.toInt64 s) &&& Int64.toUInt64 63))))]) rfl rfl rfl ?_
  refine w_mv (pc1 := 22) (st1 := [.int 255, .int (Int64.toInt32 (UInt64.toInt64 (Int64.toUInt64 e >>> (Int64.toUInt64 (Int32.toInt64 s) &&& Int64.toUInt64 63))))]) rfl rfl rfl ?_
  refine w_mv (pc1 := 23) (st1 := [.int (ty_b e s)]) rfl rfl rfl ?_
  refine w_mv (pc1 := 25) (lv1 := [(6, .int (ty_b e s)), (5, .int s), (4, .int f), (3, .int n), (0, .ref 30), (1, .long e)]) (st1 := []) rfl rfl rfl ?_
  refine w_mv (pc1 := 27) (st1 := [.int (ty_b e s)]) rfl rfl rfl ?_
  by_cases h1 : (ty_b e s).toInt = 0
  ·
    refine w_zeq_T (pc1 := 33) rfl rfl (show (ty_b e s).toInt = 0 by omega) ?_
    refine w_mv (pc1 := 35) (st1 := [.int (ty_b e s)]) rfl rfl rfl ?_
    refine w_zeq_T (pc1 := 53) rfl rfl (show (ty_b e s).toInt = 0 by omega) ?_
    refine w_mv (pc1 := 56) (lv1 := [(5, .int (s + (-8))), (6, .int (ty_b e s)), (4, .int f), (3, .int n), (0, .ref 30), (1, .long e)]) (st1 := []) rfl rfl rfl ?_
    refine w_mv (pc1 := 9) (st1 := []) rfl rfl rfl ?_
    exact hk 0 n f (Or.inl ⟨by omega, rfl, rfl⟩)
  ·
    refine w_zeq_F (pc1 := 30) rfl (by decide) rfl (show (ty_b e s).toInt ≠ 0 by omega) ?_
    refine w_mv (pc1 := 33) (lv1 := [(3, .int (n + 1)), (6, .int (ty_b e s)), (5, .int s), (4, .int f), (0, .ref 30), (1, .long e)]) (st1 := []) rfl rfl rfl ?_
    refine w_mv (pc1 := 35) (st1 := [.int (ty_b e s)]) rfl rfl rfl ?_
    by_cases h2 : (ty_b e s).toInt = 0
    ·
      refine w_zeq_T (pc1 := 53) rfl rfl (show (ty_b e s).toInt = 0 by omega) ?_
      refine w_mv (pc1 := 56) (lv1 := [(5, .int (s + (-8))), (3, .int (n + 1)), (6, .int (ty_b e s)), (4, .int f), (0, .ref 30), (1, .long e)]) (st1 := []) rfl rfl rfl ?_
      refine w_mv (pc1 := 9) (st1 := []) rfl rfl rfl ?_
      exact hk 2 (n + 1) f (Or.inr (Or.inl ⟨⟨by omega, fun q => by have := q.2; omega⟩, rfl, rfl⟩))
    ·
      refine w_zeq_F (pc1 := 38) rfl (by decide) rfl (show (ty_b e s).toInt ≠ 0 by omega) ?_
      refine w_mv (pc1 := 40) (st1 := [.int (ty_b e s)]) rfl rfl rfl ?_
      refine w_mv (pc1 := 42) (st1 := [.int 33, .int (ty_b e s)]) rfl rfl rfl ?_
      refine w_mv (pc1 := 44) (st1 := [.int 126, .int 33, .int (ty_b e s)]) rfl rfl rfl ?_
      refine w_call (M' := sM_111) (vals := [.int (ty_b e s), .int 33, .int 126]) (rest := []) (lv' := [(0, .int (ty_b e s)), (1, .int 33), (2, .int 126)]) rfl rfl rfl rfl rfl rfl rfl rfl rfl rfl ?_
      refine w_mv (pc1 := 1) (st1 := [.int (ty_b e s)]) rfl rfl rfl ?_
      refine w_mv (pc1 := 2) (st1 := [.int 33, .int (ty_b e s)]) rfl rfl rfl ?_
      by_cases h3 : (ty_b e s).toInt < 33
      ·
        refine w_ilt_T (pc1 := 14) rfl rfl (show (ty_b e s).toInt < 33 by omega) ?_
        refine w_mv (pc1 := 15) (st1 := [.int 0]) rfl rfl rfl ?_
        refine w_iret (pc1 := 47) rfl rfl rfl rfl ?_
        refine w_mv (pc1 := 50) (st1 := []) rfl rfl rfl ?_
        refine w_mv (pc1 := 51) (st1 := [.int 0]) rfl rfl rfl ?_
        refine w_mv (pc1 := 53) (lv1 := [(4, .int 0), (3, .int (n + 1)), (6, .int (ty_b e s)), (5, .int s), (0, .ref 30), (1, .long e)]) (st1 := []) rfl rfl rfl ?_
        refine w_mv (pc1 := 56) (lv1 := [(5, .int (s + (-8))), (4, .int 0), (3, .int (n + 1)), (6, .int (ty_b e s)), (0, .ref 30), (1, .long e)]) (st1 := []) rfl rfl rfl ?_
        refine w_mv (pc1 := 9) (st1 := []) rfl rfl rfl ?_
        exact hk 3 (n + 1) 0 (Or.inr (Or.inr ⟨⟨by omega, by omega⟩, rfl, rfl⟩))
      ·
        refine w_ilt_F (pc1 := 5) rfl (by decide) rfl (show 33 ≤ (ty_b e s).toInt by omega) ?_
        refine w_mv (pc1 := 6) (st1 := [.int (ty_b e s)]) rfl rfl rfl ?_
        refine w_mv (pc1 := 7) (st1 := [.int 126, .int (ty_b e s)]) rfl rfl rfl ?_
        by_cases h4 : 126 < (ty_b e s).toInt
        ·
          refine w_igt_T (pc1 := 14) rfl rfl (show 126 < (ty_b e s).toInt by omega) ?_
          refine w_mv (pc1 := 15) (st1 := [.int 0]) rfl rfl rfl ?_
          refine w_iret (pc1 := 47) rfl rfl rfl rfl ?_
          refine w_mv (pc1 := 50) (st1 := []) rfl rfl rfl ?_
          refine w_mv (pc1 := 51) (st1 := [.int 0]) rfl rfl rfl ?_
          refine w_mv (pc1 := 53) (lv1 := [(4, .int 0), (3, .int (n + 1)), (6, .int (ty_b e s)), (5, .int s), (0, .ref 30), (1, .long e)]) (st1 := []) rfl rfl rfl ?_
          refine w_mv (pc1 := 56) (lv1 := [(5, .int (s + (-8))), (4, .int 0), (3, .int (n + 1)), (6, .int (ty_b e s)), (0, .ref 30), (1, .long e)]) (st1 := []) rfl rfl rfl ?_
          refine w_mv (pc1 := 9) (st1 := []) rfl rfl rfl ?_
          exact hk 3 (n + 1) 0 (Or.inr (Or.inr ⟨⟨by omega, by omega⟩, rfl, rfl⟩))
        ·
          refine w_igt_F (pc1 := 10) rfl (by decide) rfl (show (ty_b e s).toInt ≤ 126 by omega) ?_
          refine w_mv (pc1 := 11) (st1 := [.int 1]) rfl rfl rfl ?_
          refine w_mv (pc1 := 15) (st1 := [.int 1]) rfl rfl rfl ?_
          refine w_iret (pc1 := 47) rfl rfl rfl rfl ?_
          refine w_mv (pc1 := 53) (st1 := []) rfl rfl rfl ?_
          refine w_mv (pc1 := 56) (lv1 := [(5, .int (s + (-8))), (3, .int (n + 1)), (6, .int (ty_b e s)), (4, .int f), (0, .ref 30), (1, .long e)]) (st1 := []) rfl rfl rfl ?_
          refine w_mv (pc1 := 9) (st1 := []) rfl rfl rfl ?_
          exact hk 2 (n + 1) f (Or.inr (Or.inl ⟨⟨by omega, fun q => by have := q.2; omega⟩, rfl, rfl⟩))
theorem ty_i3 {e : Int64} {hs : sx_H} {dc ds : Nat} {P : Option Value ⊕ Nat → sx_H → Nat → Nat → Prop} {s s1 n f c : Int32} (hs1 : s + (-8) = s1) (h0 : 0 ≤ s.toInt) (hk : ∀ (o : Nat) (n1 f1 : Int32), ty_nx e s n f n1 f1 → s_wp 19 sM_110 9 (ty_lvm o s1 n1 f1 (ty_b e s) e) [] hs dc ds P) : ∀ o : Nat, s_wp 19 sM_110 9 (ty_lvm o s n f c e) [] hs dc ds P
  | 0 => ty_i3_0 hs1 h0 hk
  | 1 => ty_i3_1 hs1 h0 hk
  | 2 => ty_i3_2 hs1 h0 hk
  | _ + 3 => ty_i3_3 hs1 h0 hk
set_option maxRecDepth 20000 in
set_option maxHeartbeats 4000000 in
theorem ty_m1 {e : Int64} {hs : sx_H} {dc ds : Nat} {P : Option Value ⊕ Nat → sx_H → Nat → Nat → Prop} (hk : ∀ (o : Nat) (n f c : Int32), ty_iv e 8 n f → s_wp 19 sM_110 9 (ty_lvm o (-8) n f c e) [] hs dc ds P) : s_wp 19 sM_110 9 [(5, .int 56), (4, .int 1), (3, .int 0), (0, .ref 30), (1, .long e)] [] hs dc ds P := by
  have L8 := hk
  have L7 : ∀ (o : Nat) (n f c : Int32), ty_iv e 7 n f → s_wp 19 sM_110 9 (ty_lvm o 0 n f c e) [] hs dc ds P := fun o n f c h => ty_i3 (s := 0) (s1 := (-8)) (by decide) (by decide) (fun o n1 f1 q => L8 o n1 f1 _ (ty_iv_next (j := 7) (by decide) h q)) o
  have L6 : ∀ (o : Nat) (n f c : Int32), ty_iv e 6 n f → s_wp 19 sM_110 9 (ty_lvm o 8 n f c e) [] hs dc ds P := fun o n f c h => ty_i3 (s := 8) (s1 := 0) (by decide) (by decide) (fun o n1 f1 q => L7 o n1 f1 _ (ty_iv_next (j := 6) (by decide) h q)) o
  have L5 : ∀ (o : Nat) (n f c : Int32), ty_iv e 5 n f → s_wp 19 sM_110 9 (ty_lvm o 16 n f c e) [] hs dc ds P := fun o n f c h => ty_i3 (s := 16) (s1 := 8) (by decide) (by decide) (fun o n1 f1 q => L6 o n1 f1 _ (ty_iv_next (j := 5) (by decide) h q)) o
  have L4 : ∀ (o : Nat) (n f c : Int32), ty_iv e 4 n f → s_wp 19 sM_110 9 (ty_lvm o 24 n f c e) [] hs dc ds P := fun o n f c h => ty_i3 (s := 24) (s1 := 16) (by decide) (by decide) (fun o n1 f1 q => L5 o n1 f1 _ (ty_iv_next (j := 4) (by decide) h q)) o
  have L3 : ∀ (o : Nat) (n f c : Int32), ty_iv e 3 n f → s_wp 19 sM_110 9 (ty_lvm o 32 n f c e) [] hs dc ds P := fun o n f c h => ty_i3 (s := 32) (s1 := 24) (by decide) (by decide) (fun o n1 f1 q => L4 o n1 f1 _ (ty_iv_next (j := 3) (by decide) h q)) o
  have L2 : ∀ (o : Nat) (n f c : Int32), ty_iv e 2 n f → s_wp 19 sM_110 9 (ty_lvm o 40 n f c e) [] hs dc ds P := fun o n f c h => ty_i3 (s := 40) (s1 := 32) (by decide) (by decide) (fun o n1 f1 q => L3 o n1 f1 _ (ty_iv_next (j := 2) (by decide) h q)) o
  have L1 : ∀ (o : Nat) (n f c : Int32), ty_iv e 1 n f → s_wp 19 sM_110 9 (ty_lvm o 48 n f c e) [] hs dc ds P := fun o n f c h => ty_i3 (s := 48) (s1 := 40) (by decide) (by decide) (fun o n1 f1 q => L2 o n1 f1 _ (ty_iv_next (j := 1) (by decide) h q)) o
  exact ty_i3_4 (s := 56) (s1 := 48) (c := 0) (by decide) (by decide) (fun o n1 f1 q => L1 o n1 f1 _ (ty_iv_next (j := 0) (by decide) ⟨⟨by decide, by decide⟩, Or.inl ⟨rfl, fun i hi => absurd hi (Nat.not_lt_zero i)⟩⟩ q))
set_option maxRecDepth 20000 in
set_option maxHeartbeats 4000000 in
theorem ty_i4_0 {xs : Nat → Int32} {e : Int64} {dc ds : Nat} {kc : Int32} {fc : Nat → Int32} {ov : Nat → Int64} {P : Option Value ⊕ Nat → sx_H → Nat → Nat → Prop} {s s1 n f c k : Int32} {g : Nat → Int32} (hs1 : s + (-8) = s1) (h0 : 0 ≤ s.toInt) (hr : 0 ≤ k.toInt ∧ k.toInt ≤ 40) (hk0 : ∀ o : Nat, (ty_b e s).toInt = 0 → s_wp 19 sM_110 91 (ty_lvm o s1 n f (ty_b e s) e) [] (ty_H xs kc fc ov k g) dc ds P) (hk1 : ∀ o : Nat, (ty_b e s).toInt ≠ 0 → ∀ g1 : Nat → Int32, s_wp 19 sM_110 91 (ty_lvm o s1 n f (ty_b e s) e) [] (ty_H xs kc fc ov (k + 1) g1) dc ds P) : s_wp 19 sM_110 91 [(5, .int s), (6, .int c), (4, .int f), (3, .int n), (0, .ref 30), (1, .long e)] [] (ty_H xs kc fc ov k g) dc ds P := by
  subst hs1
  refine w_mv (pc1 := 93) (st1 := [.int s]) rfl rfl rfl ?_
  refine w_zlt_F (pc1 := 96) rfl (by decide) rfl (show 0 ≤ s.toInt by omega) ?_
  refine w_mv (pc1 := 97) (st1 := [.long e]) rfl rfl rfl ?_
  refine w_mv (pc1 := 99) (st1 := [.int s, .long e]) rfl rfl rfl ?_
  refine w_mv (pc1 := 100) (st1 := [.long (UInt64.toInt64 (Int64.toUInt64 e >>> (Int64.toUInt64 (Int32.toInt64 s) &&& Int64.toUInt64 63)))]) rfl rfl rfl ?_
  refine w_mv (pc1 := 101) (st1 := [.int (Int64.toInt32 (UInt64.toInt64 (Int64.toUInt64 e >>> (Int64.toUInt64 (Int32.toInt64 s) &&& Int64.toUInt64 63))))]) rfl rfl rfl ?_
  refine w_mv (pc1 := 104) (st1 := [.int 255, .int (Int64.toInt32 (UInt64.toInt64 (Int64.toUInt64 e >>> (Int64.toUInt64 (Int32.toInt64 s) &&& Int64.toUInt64 63))))]) rfl rfl rfl ?_
  refine w_mv (pc1 := 105) (st1 := [.int (ty_b e s)]) rfl rfl rfl ?_
  refine w_mv (pc1 := 107) (lv1 := [(6, .int (ty_b e s)), (5, .int s), (4, .int f), (3, .int n), (0, .ref 30), (1, .long e)]) (st1 := []) rfl rfl rfl ?_
  refine w_mv (pc1 := 109) (st1 := [.int (ty_b e s)]) rfl rfl rfl ?_
  by_cases h1 : (ty_b e s).toInt ≠ 0
  ·
    refine w_zne_T (pc1 := 115) rfl rfl (show (ty_b e s).toInt ≠ 0 by omega) ?_
    refine w_mv (pc1 := 116) (st1 := [.ref 30]) rfl rfl rfl ?_
    refine w_mv (pc1 := 119) (st1 := [.ref 31]) rfl rfl rfl ?_
    refine w_mv (pc1 := 120) (st1 := [.ref 30, .ref 31]) rfl rfl rfl ?_
    refine w_mv (pc1 := 123) (st1 := [.int k, .ref 31]) rfl rfl rfl ?_
    refine w_mv (pc1 := 125) (st1 := [.int (ty_b e s), .int k, .ref 31]) rfl rfl rfl ?_
    refine w_ast (x := 31) (t := 0) (n := 48) (f := g) (ty := .int) (nw := fun x => x) (pc1 := 126) (hs1 := ty_H xs kc fc ov k (upd g k.toNatClampNeg (ty_b e s))) rfl rfl rfl rfl rfl rfl (show 0 ≤ k.toInt by omega) (show k.toInt < 48 by omega) rfl rfl ?_
    refine w_mv (pc1 := 127) (st1 := [.ref 30]) rfl rfl rfl ?_
    refine w_mv (pc1 := 128) (st1 := [.ref 30, .ref 30]) rfl rfl rfl ?_
    refine w_mv (pc1 := 131) (st1 := [.int k, .ref 30]) rfl rfl rfl ?_
    refine w_mv (pc1 := 132) (st1 := [.int 1, .int k, .ref 30]) rfl rfl rfl ?_
    refine w_mv (pc1 := 133) (st1 := [.int (k + 1), .ref 30]) rfl rfl rfl ?_
    refine w_st (pc1 := 136) (st1 := []) (hs1 := ty_H xs kc fc ov (k + 1) (upd g k.toNatClampNeg (ty_b e s))) (dc1 := 0) (ds1 := 0) (dc2 := dc) (ds2 := ds) rfl rfl rfl rfl rfl ?_
    refine w_mv (pc1 := 139) (lv1 := [(5, .int (s + (-8))), (6, .int (ty_b e s)), (4, .int f), (3, .int n), (0, .ref 30), (1, .long e)]) (st1 := []) rfl rfl rfl ?_
    refine w_mv (pc1 := 91) (st1 := []) rfl rfl rfl ?_
    exact hk1 0 (by omega) _
  ·
    refine w_zne_F (pc1 := 112) rfl (by decide) rfl (show (ty_b e s).toInt = 0 by omega) ?_
    refine w_mv (pc1 := 136) (st1 := []) rfl rfl rfl ?_
    refine w_mv (pc1 := 139) (lv1 := [(5, .int (s + (-8))), (6, .int (ty_b e s)), (4, .int f), (3, .int n), (0, .ref 30), (1, .long e)]) (st1 := []) rfl rfl rfl ?_
    refine w_mv (pc1 := 91) (st1 := []) rfl rfl rfl ?_
    exact hk0 0 (by omega)
set_option maxRecDepth 20000 in
set_option maxHeartbeats 4000000 in
theorem ty_i4_1 {xs : Nat → Int32} {e : Int64} {dc ds : Nat} {kc : Int32} {fc : Nat → Int32} {ov : Nat → Int64} {P : Option Value ⊕ Nat → sx_H → Nat → Nat → Prop} {s s1 n f c k : Int32} {g : Nat → Int32} (hs1 : s + (-8) = s1) (h0 : 0 ≤ s.toInt) (hr : 0 ≤ k.toInt ∧ k.toInt ≤ 40) (hk0 : ∀ o : Nat, (ty_b e s).toInt = 0 → s_wp 19 sM_110 91 (ty_lvm o s1 n f (ty_b e s) e) [] (ty_H xs kc fc ov k g) dc ds P) (hk1 : ∀ o : Nat, (ty_b e s).toInt ≠ 0 → ∀ g1 : Nat → Int32, s_wp 19 sM_110 91 (ty_lvm o s1 n f (ty_b e s) e) [] (ty_H xs kc fc ov (k + 1) g1) dc ds P) : s_wp 19 sM_110 91 [(5, .int s), (6, .int c), (3, .int n), (4, .int f), (0, .ref 30), (1, .long e)] [] (ty_H xs kc fc ov k g) dc ds P := by
  subst hs1
  refine w_mv (pc1 := 93) (st1 := [.int s]) rfl rfl rfl ?_
  refine w_zlt_F (pc1 := 96) rfl (by decide) rfl (show 0 ≤ s.toInt by omega) ?_
  refine w_mv (pc1 := 97) (st1 := [.long e]) rfl rfl rfl ?_
  refine w_mv (pc1 := 99) (st1 := [.int s, .long e]) rfl rfl rfl ?_
  refine w_mv (pc1 := 100) (st1 := [.long (UInt64.toInt64 (Int64.toUInt64 e >>> (Int64.toUInt64 (Int32.toInt64 s) &&& Int64.toUInt64 63)))]) rfl rfl rfl ?_
  refine w_mv (pc1 := 101) (st1 := [.int (Int64.toInt32 (UInt64.toInt64 (Int64.toUInt64 e >>> (Int64.toUInt64 (Int32.toInt64 s) &&& Int64.toUInt64 63))))]) rfl rfl rfl ?_
  refine w_mv (pc1 := 104) (st1 := [.int 255, .int (Int64.toInt32 (UInt64.toInt64 (Int64.toUInt64 e >>> (Int64.toUInt64 (Int32.toInt64 s) &&& Int64.toUInt64 63))))]) rfl rfl rfl ?_
  refine w_mv (pc1 := 105) (st1 := [.int (ty_b e s)]) rfl rfl rfl ?_
  refine w_mv (pc1 := 107) (lv1 := [(6, .int (ty_b e s)), (5, .int s), (3, .int n), (4, .int f), (0, .ref 30), (1, .long e)]) (st1 := []) rfl rfl rfl ?_
  refine w_mv (pc1 := 109) (st1 := [.int (ty_b e s)]) rfl rfl rfl ?_
  by_cases h1 : (ty_b e s).toInt ≠ 0
  ·
    refine w_zne_T (pc1 := 115) rfl rfl (show (ty_b e s).toInt ≠ 0 by omega) ?_
    refine w_mv (pc1 := 116) (st1 := [.ref 30]) rfl rfl rfl ?_
    refine w_mv (pc1 := 119) (st1 := [.ref 31]) rfl rfl rfl ?_
    refine w_mv (pc1 := 120) (st1 := [.ref 30, .ref 31]) rfl rfl rfl ?_
    refine w_mv (pc1 := 123) (st1 := [.int k, .ref 31]) rfl rfl rfl ?_
    refine w_mv (pc1 := 125) (st1 := [.int (ty_b e s), .int k, .ref 31]) rfl rfl rfl ?_
    refine w_ast (x := 31) (t := 0) (n := 48) (f := g) (ty := .int) (nw := fun x => x) (pc1 := 126) (hs1 := ty_H xs kc fc ov k (upd g k.toNatClampNeg (ty_b e s))) rfl rfl rfl rfl rfl rfl (show 0 ≤ k.toInt by omega) (show k.toInt < 48 by omega) rfl rfl ?_
    refine w_mv (pc1 := 127) (st1 := [.ref 30]) rfl rfl rfl ?_
    refine w_mv (pc1 := 128) (st1 := [.ref 30, .ref 30]) rfl rfl rfl ?_
    refine w_mv (pc1 := 131) (st1 := [.int k, .ref 30]) rfl rfl rfl ?_
    refine w_mv (pc1 := 132) (st1 := [.int 1, .int k, .ref 30]) rfl rfl rfl ?_
    refine w_mv (pc1 := 133) (st1 := [.int (k + 1), .ref 30]) rfl rfl rfl ?_
    refine w_st (pc1 := 136) (st1 := []) (hs1 := ty_H xs kc fc ov (k + 1) (upd g k.toNatClampNeg (ty_b e s))) (dc1 := 0) (ds1 := 0) (dc2 := dc) (ds2 := ds) rfl rfl rfl rfl rfl ?_
    refine w_mv (pc1 := 139) (lv1 := [(5, .int (s + (-8))), (6, .int (ty_b e s)), (3, .int n), (4, .int f), (0, .ref 30), (1, .long e)]) (st1 := []) rfl rfl rfl ?_
    refine w_mv (pc1 := 91) (st1 := []) rfl rfl rfl ?_
    exact hk1 1 (by omega) _
  ·
    refine w_zne_F (pc1 := 112) rfl (by decide) rfl (show (ty_b e s).toInt = 0 by omega) ?_
    refine w_mv (pc1 := 136) (st1 := []) rfl rfl rfl ?_
    refine w_mv (pc1 := 139) (lv1 := [(5, .int (s + (-8))), (6, .int (ty_b e s)), (3, .int n), (4, .int f), (0, .ref 30), (1, .long e)]) (st1 := []) rfl rfl rfl ?_
    refine w_mv (pc1 := 91) (st1 := []) rfl rfl rfl ?_
    exact hk0 1 (by omega)
set_option maxRecDepth 20000 in
set_option maxHeartbeats 4000000 in
theorem ty_i4_2 {xs : Nat → Int32} {e : Int64} {dc ds : Nat} {kc : Int32} {fc : Nat → Int32} {ov : Nat → Int64} {P : Option Value ⊕ Nat → sx_H → Nat → Nat → Prop} {s s1 n f c k : Int32} {g : Nat → Int32} (hs1 : s + (-8) = s1) (h0 : 0 ≤ s.toInt) (hr : 0 ≤ k.toInt ∧ k.toInt ≤ 40) (hk0 : ∀ o : Nat, (ty_b e s).toInt = 0 → s_wp 19 sM_110 91 (ty_lvm o s1 n f (ty_b e s) e) [] (ty_H xs kc fc ov k g) dc ds P) (hk1 : ∀ o : Nat, (ty_b e s).toInt ≠ 0 → ∀ g1 : Nat → Int32, s_wp 19 sM_110 91 (ty_lvm o s1 n f (ty_b e s) e) [] (ty_H xs kc fc ov (k + 1) g1) dc ds P) : s_wp 19 sM_110 91 [(5, .int s), (3, .int n), (6, .int c), (4, .int f), (0, .ref 30), (1, .long e)] [] (ty_H xs kc fc ov k g) dc ds P := by
  subst hs1
  refine w_mv (pc1 := 93) (st1 := [.int s]) rfl rfl rfl ?_
  refine w_zlt_F (pc1 := 96) rfl (by decide) rfl (show 0 ≤ s.toInt by omega) ?_
  refine w_mv (pc1 := 97) (st1 := [.long e]) rfl rfl rfl ?_
  refine w_mv (pc1 := 99) (st1 := [.int s, .long e]) rfl rfl rfl ?_
  refine w_mv (pc1 := 100) (st1 := [.long (UInt64.toInt64 (Int64.toUInt64 e >>> (Int64.toUInt64 (Int32.toInt64 s) &&& Int64.toUInt64 63)))]) rfl rfl rfl ?_
  refine w_mv (pc1 := 101) (st1 := [.int (Int64.toInt32 (UInt64.toInt64 (Int64.toUInt64 e >>> (Int64.toUInt64 (Int32.toInt64 s) &&& Int64.toUInt64 63))))]) rfl rfl rfl ?_
  refine w_mv (pc1 := 104) (st1 := [.int 255, .int (Int64.toInt32 (UInt64.toInt64 (Int64.toUInt64 e >>> (Int64.toUInt64 (Int32.toInt64 s) &&& Int64.toUInt64 63))))]) rfl rfl rfl ?_
  refine w_mv (pc1 := 105) (st1 := [.int (ty_b e s)]) rfl rfl rfl ?_
  refine w_mv (pc1 := 107) (lv1 := [(6, .int (ty_b e s)), (5, .int s), (3, .int n), (4, .int f), (0, .ref 30), (1, .long e)]) (st1 := []) rfl rfl rfl ?_
  refine w_mv (pc1 := 109) (st1 := [.int (ty_b e s)]) rfl rfl rfl ?_
  by_cases h1 : (ty_b e s).toInt ≠ 0
  ·
    refine w_zne_T (pc1 := 115) rfl rfl (show (ty_b e s).toInt ≠ 0 by omega) ?_
    refine w_mv (pc1 := 116) (st1 := [.ref 30]) rfl rfl rfl ?_
    refine w_mv (pc1 := 119) (st1 := [.ref 31]) rfl rfl rfl ?_
    refine w_mv (pc1 := 120) (st1 := [.ref 30, .ref 31]) rfl rfl rfl ?_
    refine w_mv (pc1 := 123) (st1 := [.int k, .ref 31]) rfl rfl rfl ?_
    refine w_mv (pc1 := 125) (st1 := [.int (ty_b e s), .int k, .ref 31]) rfl rfl rfl ?_
    refine w_ast (x := 31) (t := 0) (n := 48) (f := g) (ty := .int) (nw := fun x => x) (pc1 := 126) (hs1 := ty_H xs kc fc ov k (upd g k.toNatClampNeg (ty_b e s))) rfl rfl rfl rfl rfl rfl (show 0 ≤ k.toInt by omega) (show k.toInt < 48 by omega) rfl rfl ?_
    refine w_mv (pc1 := 127) (st1 := [.ref 30]) rfl rfl rfl ?_
    refine w_mv (pc1 := 128) (st1 := [.ref 30, .ref 30]) rfl rfl rfl ?_
    refine w_mv (pc1 := 131) (st1 := [.int k, .ref 30]) rfl rfl rfl ?_
    refine w_mv (pc1 := 132) (st1 := [.int 1, .int k, .ref 30]) rfl rfl rfl ?_
    refine w_mv (pc1 := 133) (st1 := [.int (k + 1), .ref 30]) rfl rfl rfl ?_
    refine w_st (pc1 := 136) (st1 := []) (hs1 := ty_H xs kc fc ov (k + 1) (upd g k.toNatClampNeg (ty_b e s))) (dc1 := 0) (ds1 := 0) (dc2 := dc) (ds2 := ds) rfl rfl rfl rfl rfl ?_
    refine w_mv (pc1 := 139) (lv1 := [(5, .int (s + (-8))), (6, .int (ty_b e s)), (3, .int n), (4, .int f), (0, .ref 30), (1, .long e)]) (st1 := []) rfl rfl rfl ?_
    refine w_mv (pc1 := 91) (st1 := []) rfl rfl rfl ?_
    exact hk1 1 (by omega) _
  ·
    refine w_zne_F (pc1 := 112) rfl (by decide) rfl (show (ty_b e s).toInt = 0 by omega) ?_
    refine w_mv (pc1 := 136) (st1 := []) rfl rfl rfl ?_
    refine w_mv (pc1 := 139) (lv1 := [(5, .int (s + (-8))), (6, .int (ty_b e s)), (3, .int n), (4, .int f), (0, .ref 30), (1, .long e)]) (st1 := []) rfl rfl rfl ?_
    refine w_mv (pc1 := 91) (st1 := []) rfl rfl rfl ?_
    exact hk0 1 (by omega)
set_option maxRecDepth 20000 in
set_option maxHeartbeats 4000000 in
theorem ty_i4_3 {xs : Nat → Int32} {e : Int64} {dc ds : Nat} {kc : Int32} {fc : Nat → Int32} {ov : Nat → Int64} {P : Option Value ⊕ Nat → sx_H → Nat → Nat → Prop} {s s1 n f c k : Int32} {g : Nat → Int32} (hs1 : s + (-8) = s1) (h0 : 0 ≤ s.toInt) (hr : 0 ≤ k.toInt ∧ k.toInt ≤ 40) (hk0 : ∀ o : Nat, (ty_b e s).toInt = 0 → s_wp 19 sM_110 91 (ty_lvm o s1 n f (ty_b e s) e) [] (ty_H xs kc fc ov k g) dc ds P) (hk1 : ∀ o : Nat, (ty_b e s).toInt ≠ 0 → ∀ g1 : Nat → Int32, s_wp 19 sM_110 91 (ty_lvm o s1 n f (ty_b e s) e) [] (ty_H xs kc fc ov (k + 1) g1) dc ds P) : s_wp 19 sM_110 91 [(5, .int s), (4, .int f), (3, .int n), (6, .int c), (0, .ref 30), (1, .long e)] [] (ty_H xs kc fc ov k g) dc ds P := by
  subst hs1
  refine w_mv (pc1 := 93) (st1 := [.int s]) rfl rfl rfl ?_
  refine w_zlt_F (pc1 := 96) rfl (by decide) rfl (show 0 ≤ s.toInt by omega) ?_
  refine w_mv (pc1 := 97) (st1 := [.long e]) rfl rfl rfl ?_
  refine w_mv (pc1 := 99) (st1 := [.int s, .long e]) rfl rfl rfl ?_
  refine w_mv (pc1 := 100) (st1 := [.long (UInt64.toInt64 (Int64.toUInt64 e >>> (Int64.toUInt64 (Int32.toInt64 s) &&& Int64.toUInt64 63)))]) rfl rfl rfl ?_
  refine w_mv (pc1 := 101) (st1 := [.int (Int64.toInt32 (UInt64.toInt64 (Int64.toUInt64 e >>> (Int64.toUInt64 (Int32.toInt64 s) &&& Int64.toUInt64 63))))]) rfl rfl rfl ?_
  refine w_mv (pc1 := 104) (st1 := [.int 255, .int (Int64.toInt32 (UInt64.toInt64 (Int64.toUInt64 e >>> (Int64.toUInt64 (Int32.toInt64 s) &&& Int64.toUInt64 63))))]) rfl rfl rfl ?_
  refine w_mv (pc1 := 105) (st1 := [.int (ty_b e s)]) rfl rfl rfl ?_
  refine w_mv (pc1 := 107) (lv1 := [(6, .int (ty_b e s)), (5, .int s), (4, .int f), (3, .int n), (0, .ref 30), (1, .long e)]) (st1 := []) rfl rfl rfl ?_
  refine w_mv (pc1 := 109) (st1 := [.int (ty_b e s)]) rfl rfl rfl ?_
  by_cases h1 : (ty_b e s).toInt ≠ 0
  ·
    refine w_zne_T (pc1 := 115) rfl rfl (show (ty_b e s).toInt ≠ 0 by omega) ?_
    refine w_mv (pc1 := 116) (st1 := [.ref 30]) rfl rfl rfl ?_
    refine w_mv (pc1 := 119) (st1 := [.ref 31]) rfl rfl rfl ?_
    refine w_mv (pc1 := 120) (st1 := [.ref 30, .ref 31]) rfl rfl rfl ?_
    refine w_mv (pc1 := 123) (st1 := [.int k, .ref 31]) rfl rfl rfl ?_
    refine w_mv (pc1 := 125) (st1 := [.int (ty_b e s), .int k, .ref 31]) rfl rfl rfl ?_
    refine w_ast (x := 31) (t := 0) (n := 48) (f := g) (ty := .int) (nw := fun x => x) (pc1 := 126) (hs1 := ty_H xs kc fc ov k (upd g k.toNatClampNeg (ty_b e s))) rfl rfl rfl rfl rfl rfl (show 0 ≤ k.toInt by omega) (show k.toInt < 48 by omega) rfl rfl ?_
    refine w_mv (pc1 := 127) (st1 := [.ref 30]) rfl rfl rfl ?_
    refine w_mv (pc1 := 128) (st1 := [.ref 30, .ref 30]) rfl rfl rfl ?_
    refine w_mv (pc1 := 131) (st1 := [.int k, .ref 30]) rfl rfl rfl ?_
    refine w_mv (pc1 := 132) (st1 := [.int 1, .int k, .ref 30]) rfl rfl rfl ?_
    refine w_mv (pc1 := 133) (st1 := [.int (k + 1), .ref 30]) rfl rfl rfl ?_
    refine w_st (pc1 := 136) (st1 := []) (hs1 := ty_H xs kc fc ov (k + 1) (upd g k.toNatClampNeg (ty_b e s))) (dc1 := 0) (ds1 := 0) (dc2 := dc) (ds2 := ds) rfl rfl rfl rfl rfl ?_
    refine w_mv (pc1 := 139) (lv1 := [(5, .int (s + (-8))), (6, .int (ty_b e s)), (4, .int f), (3, .int n), (0, .ref 30), (1, .long e)]) (st1 := []) rfl rfl rfl ?_
    refine w_mv (pc1 := 91) (st1 := []) rfl rfl rfl ?_
    exact hk1 0 (by omega) _
  ·
    refine w_zne_F (pc1 := 112) rfl (by decide) rfl (show (ty_b e s).toInt = 0 by omega) ?_
    refine w_mv (pc1 := 136) (st1 := []) rfl rfl rfl ?_
    refine w_mv (pc1 := 139) (lv1 := [(5, .int (s + (-8))), (6, .int (ty_b e s)), (4, .int f), (3, .int n), (0, .ref 30), (1, .long e)]) (st1 := []) rfl rfl rfl ?_
    refine w_mv (pc1 := 91) (st1 := []) rfl rfl rfl ?_
    exact hk0 0 (by omega)
theorem ty_i4 {xs : Nat → Int32} {e : Int64} {dc ds : Nat} {kc : Int32} {fc : Nat → Int32} {ov : Nat → Int64} {P : Option Value ⊕ Nat → sx_H → Nat → Nat → Prop} {s s1 n f c k : Int32} {g : Nat → Int32} (hs1 : s + (-8) = s1) (h0 : 0 ≤ s.toInt) (hr : 0 ≤ k.toInt ∧ k.toInt ≤ 40) (hk0 : ∀ o : Nat, (ty_b e s).toInt = 0 → s_wp 19 sM_110 91 (ty_lvm o s1 n f (ty_b e s) e) [] (ty_H xs kc fc ov k g) dc ds P) (hk1 : ∀ o : Nat, (ty_b e s).toInt ≠ 0 → ∀ g1 : Nat → Int32, s_wp 19 sM_110 91 (ty_lvm o s1 n f (ty_b e s) e) [] (ty_H xs kc fc ov (k + 1) g1) dc ds P) : ∀ o : Nat, s_wp 19 sM_110 91 (ty_lvm o s n f c e) [] (ty_H xs kc fc ov k g) dc ds P
  | 0 => ty_i4_0 hs1 h0 hr hk0 hk1
  | 1 => ty_i4_1 hs1 h0 hr hk0 hk1
  | 2 => ty_i4_2 hs1 h0 hr hk0 hk1
  | _ + 3 => ty_i4_3 hs1 h0 hr hk0 hk1
set_option maxRecDepth 20000 in
set_option maxHeartbeats 4000000 in
theorem ty_m2 {xs : Nat → Int32} {e : Int64} {dc ds : Nat} {kc : Int32} {fc : Nat → Int32} {ov : Nat → Int64} {P : Option Value ⊕ Nat → sx_H → Nat → Nat → Prop} {n f : Int32} (hk : ∀ (o : Nat) (g : Nat → Int32) (c : Int32), s_wp 19 sM_110 91 (ty_lvm o (-8) n f c e) [] (ty_H xs kc fc ov (ty_cnt e 8) g) dc ds P) (o : Nat) (c : Int32) : s_wp 19 sM_110 91 (ty_lvm o 56 n f c e) [] (ty_H xs kc fc ov 0 (fun _ => 0)) dc ds P := by
  have L8 : ∀ (o : Nat) (k : Int32) (g : Nat → Int32) (c : Int32), k = ty_cnt e 8 → s_wp 19 sM_110 91 (ty_lvm o (-8) n f c e) [] (ty_H xs kc fc ov k g) dc ds P := fun o k g c h => by
    subst h
    exact hk o g c
  have L7 : ∀ (o : Nat) (k : Int32) (g : Nat → Int32) (c : Int32), k = ty_cnt e 7 → s_wp 19 sM_110 91 (ty_lvm o 0 n f c e) [] (ty_H xs kc fc ov k g) dc ds P := fun o k g c h => ty_i4 (s := 0) (s1 := (-8)) (by decide) (by decide) (by have := ty_cnt_rng e 7 (by decide); rw [h]; omega) (fun o q => L8 o k g _ (h.trans (ty_cnt_z (j := 7) q).symm)) (fun o q g1 => L8 o (k + 1) g1 _ ((congrArg (· + 1) h).trans (ty_cnt_s (j := 7) q).symm)) o
  have L6 : ∀ (o : Nat) (k : Int32) (g : Nat → Int32) (c : Int32), k = ty_cnt e 6 → s_wp 19 sM_110 91 (ty_lvm o 8 n f c e) [] (ty_H xs kc fc ov k g) dc ds P := fun o k g c h => ty_i4 (s := 8) (s1 := 0) (by decide) (by decide) (by have := ty_cnt_rng e 6 (by decide); rw [h]; omega) (fun o q => L7 o k g _ (h.trans (ty_cnt_z (j := 6) q).symm)) (fun o q g1 => L7 o (k + 1) g1 _ ((congrArg (· + 1) h).trans (ty_cnt_s (j := 6) q).symm)) o
  have L5 : ∀ (o : Nat) (k : Int32) (g : Nat → Int32) (c : Int32), k = ty_cnt e 5 → s_wp 19 sM_110 91 (ty_lvm o 16 n f c e) [] (ty_H xs kc fc ov k g) dc ds P := fun o k g c h => ty_i4 (s := 16) (s1 := 8) (by decide) (by decide) (by have := ty_cnt_rng e 5 (by decide); rw [h]; omega) (fun o q => L6 o k g _ (h.trans (ty_cnt_z (j := 5) q).symm)) (fun o q g1 => L6 o (k + 1) g1 _ ((congrArg (· + 1) h).trans (ty_cnt_s (j := 5) q).symm)) o
  have L4 : ∀ (o : Nat) (k : Int32) (g : Nat → Int32) (c : Int32), k = ty_cnt e 4 → s_wp 19 sM_110 91 (ty_lvm o 24 n f c e) [] (ty_H xs kc fc ov k g) dc ds P := fun o k g c h => ty_i4 (s := 24) (s1 := 16) (by decide) (by decide) (by have := ty_cnt_rng e 4 (by decide); rw [h]; omega) (fun o q => L5 o k g _ (h.trans (ty_cnt_z (j := 4) q).symm)) (fun o q g1 => L5 o (k + 1) g1 _ ((congrArg (· + 1) h).trans (ty_cnt_s (j := 4) q).symm)) o
  have L3 : ∀ (o : Nat) (k : Int32) (g : Nat → Int32) (c : Int32), k = ty_cnt e 3 → s_wp 19 sM_110 91 (ty_lvm o 32 n f c e) [] (ty_H xs kc fc ov k g) dc ds P := fun o k g c h => ty_i4 (s := 32) (s1 := 24) (by decide) (by decide) (by have := ty_cnt_rng e 3 (by decide); rw [h]; omega) (fun o q => L4 o k g _ (h.trans (ty_cnt_z (j := 3) q).symm)) (fun o q g1 => L4 o (k + 1) g1 _ ((congrArg (· + 1) h).trans (ty_cnt_s (j := 3) q).symm)) o
  have L2 : ∀ (o : Nat) (k : Int32) (g : Nat → Int32) (c : Int32), k = ty_cnt e 2 → s_wp 19 sM_110 91 (ty_lvm o 40 n f c e) [] (ty_H xs kc fc ov k g) dc ds P := fun o k g c h => ty_i4 (s := 40) (s1 := 32) (by decide) (by decide) (by have := ty_cnt_rng e 2 (by decide); rw [h]; omega) (fun o q => L3 o k g _ (h.trans (ty_cnt_z (j := 2) q).symm)) (fun o q g1 => L3 o (k + 1) g1 _ ((congrArg (· + 1) h).trans (ty_cnt_s (j := 2) q).symm)) o
  have L1 : ∀ (o : Nat) (k : Int32) (g : Nat → Int32) (c : Int32), k = ty_cnt e 1 → s_wp 19 sM_110 91 (ty_lvm o 48 n f c e) [] (ty_H xs kc fc ov k g) dc ds P := fun o k g c h => ty_i4 (s := 48) (s1 := 40) (by decide) (by decide) (by have := ty_cnt_rng e 1 (by decide); rw [h]; omega) (fun o q => L2 o k g _ (h.trans (ty_cnt_z (j := 1) q).symm)) (fun o q g1 => L2 o (k + 1) g1 _ ((congrArg (· + 1) h).trans (ty_cnt_s (j := 1) q).symm)) o
  have L0 : ∀ (o : Nat) (k : Int32) (g : Nat → Int32) (c : Int32), k = ty_cnt e 0 → s_wp 19 sM_110 91 (ty_lvm o 56 n f c e) [] (ty_H xs kc fc ov k g) dc ds P := fun o k g c h => ty_i4 (s := 56) (s1 := 48) (by decide) (by decide) (by have := ty_cnt_rng e 0 (by decide); rw [h]; omega) (fun o q => L1 o k g _ (h.trans (ty_cnt_z (j := 0) q).symm)) (fun o q g1 => L1 o (k + 1) g1 _ ((congrArg (· + 1) h).trans (ty_cnt_s (j := 0) q).symm)) o
  exact L0 o 0 _ c rfl
