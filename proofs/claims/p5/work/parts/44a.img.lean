/-! THE IMAGES: what the reference's methods come to, as pure trees (by program: wip/sx/gen_img.py) -/
def mV (o : Option FieldType) (r : Int32) : Option Value := match o with
  | none => none
  | some _ => some (.int r)
/-- the method M of the reference, at pc with these locals, comes to its end with K; h frames below -/
def mT (h : Nat) (M : sx_M) (pc : Nat) (lv : List (Nat × Value)) (st : List Value) (v : Nat → Int32) (a : Nat → Nat → Int32) (K : Int32 → (Nat → Int32) → (Nat → Nat → Int32) → Prop) : Prop :=
  ∀ (A : Nat → sx_C) (B : List sx_C) (d dc ds : Nat) (P : Option Value ⊕ Nat → sx_H → Nat → Nat → Prop), (∀ r v1 a1, K r v1 a1 → P (.inl (mV M.2.2.2.1 r)) (mH A B v1 a1) dc ds) → s_wp (d + h) M pc lv st (mH A B v a) dc ds P
theorem mT.mono {h : Nat} {M : sx_M} {pc : Nat} {lv : List (Nat × Value)} {st : List Value} {v : Nat → Int32} {a : Nat → Nat → Int32} {K K' : Int32 → (Nat → Int32) → (Nat → Nat → Int32) → Prop} (hh : mT h M pc lv st v a K) (hk : ∀ r v1 a1, K r v1 a1 → K' r v1 a1) : mT h M pc lv st v a K' :=
  fun A B d dc ds P hP => hh A B d dc ds P (fun r v1 a1 q => hP r v1 a1 (hk r v1 a1 q))
def ty_b (e : Int64) (s : Int32) : Int32 := Int64.toInt32 (UInt64.toInt64 (Int64.toUInt64 e >>> (Int64.toUInt64 (Int32.toInt64 s) &&& Int64.toUInt64 63))) &&& 255
def m_rem (x y : Int32) : Int32 := x - x / y * y
def m_ldv (x y : Int64) : Int64 := x / y
def m_lrm (x y : Int64) : Int64 := x - x / y * y
section SXWJ
variable {K0 : Nat} {ft : Nat → Nat → FieldType} {df : Nat → List Value} {tf : Nat → FieldType} {cst : Nat → Nat → Bool} {zs : List (String × String × String × Value)} {ks : Nat → Value} {mt : Nat → Option sx_M} {d pc dc ds : Nat} {M : sx_M} {lv : List (Nat × Value)} {rest : List Value} {hs : sx_H} {i0 : Instr} {a b : Nat} {P : Option Value ⊕ Nat → sx_H → Nat → Nat → Prop}
theorem w_irem {x y : Int32} {pc1 : Nat} (hI : M.2.2.2.2.2.2.1 pc = some (.irem, 1, a, b)) (hne : ¬ y = 0) (hp : pc + 1 = pc1) (h : sx_wp K0 ft df tf cst zs ks mt d M pc1 lv (.int (m_rem x y) :: rest) hs dc ds P) : sx_wp K0 ft df tf cst zs ks mt d M pc lv (.int y :: .int x :: rest) hs dc ds P := by
  subst hp
  refine w_mv hI rfl ?_ h
  show ((if y = 0 then none else some (pc + 1, lv, Value.int (x - x / y * y) :: rest)).bind fun F => some (F, hs, 0, 0)) = _
  rw [if_neg hne]
  rfl
theorem w_ldiv {x y : Int64} {pc1 : Nat} (hI : M.2.2.2.2.2.2.1 pc = some (.ldiv, 1, a, b)) (hne : ¬ y = 0) (hp : pc + 1 = pc1) (h : sx_wp K0 ft df tf cst zs ks mt d M pc1 lv (.long (m_ldv x y) :: rest) hs dc ds P) : sx_wp K0 ft df tf cst zs ks mt d M pc lv (.long y :: .long x :: rest) hs dc ds P := by
  subst hp
  refine w_mv hI rfl ?_ h
  show ((if y = 0 then none else some (pc + 1, lv, Value.long (x / y) :: rest)).bind fun F => some (F, hs, 0, 0)) = _
  rw [if_neg hne]
  rfl
theorem w_lrem {x y : Int64} {pc1 : Nat} (hI : M.2.2.2.2.2.2.1 pc = some (.lrem, 1, a, b)) (hne : ¬ y = 0) (hp : pc + 1 = pc1) (h : sx_wp K0 ft df tf cst zs ks mt d M pc1 lv (.long (m_lrm x y) :: rest) hs dc ds P) : sx_wp K0 ft df tf cst zs ks mt d M pc lv (.long y :: .long x :: rest) hs dc ds P := by
  subst hp
  refine w_mv hI rfl ?_ h
  show ((if y = 0 then none else some (pc + 1, lv, Value.long (x - x / y * y) :: rest)).bind fun F => some (F, hs, 0, 0)) = _
  rw [if_neg hne]
  rfl
theorem w_bend {x : Int32} (hI : M.2.2.2.2.2.2.1 pc = some (.ireturn, 1, a, b)) (hr : M.2.2.2.1 = some .boolean) (hx : x = 0 ∨ x = 1) (h : P (.inl (mV M.2.2.2.1 x)) hs dc ds) : sx_wp K0 ft df tf cst zs ks mt d M pc lv [.int x] hs dc ds P := by
  rw [hr] at h
  refine sx_wp.stop hI rfl (v := .inl (some (.int x))) (hs1 := hs) (dc1 := 0) (ds1 := 0) ?_ h
  rw [hr]
  show (if sx_fit .boolean (.int x) = true ∧ 1 = 1 then _ else _) = _
  rw [if_pos ⟨by rcases hx with rfl | rfl <;> rfl, rfl⟩]
end SXWJ
def m_at (v : Nat → Int32) (a : Nat → Nat → Int32) (i : Int32) : Int32 := if i.toInt < (v 13).toInt then a 1 i.toNatClampNeg else 0
theorem mst_0 {A : Nat → sx_C} {B : List sx_C} {v : Nat → Int32} {a : Nat → Nat → Int32} {g : Nat → Int32} : (mH A B v a).set 34 (.inl (0, (48, .inl g))) = mH A B v (va_up a 0 g) := rfl
theorem mst_1 {A : Nat → sx_C} {B : List sx_C} {v : Nat → Int32} {a : Nat → Nat → Int32} {g : Nat → Int32} : (mH A B v a).set 35 (.inl (0, (624, .inl g))) = mH A B v (va_up a 1 g) := rfl
theorem mst_2 {A : Nat → sx_C} {B : List sx_C} {v : Nat → Int32} {a : Nat → Nat → Int32} {g : Nat → Int32} : (mH A B v a).set 36 (.inl (0, (12, .inl g))) = mH A B v (va_up a 2 g) := rfl
theorem mst_3 {A : Nat → sx_C} {B : List sx_C} {v : Nat → Int32} {a : Nat → Nat → Int32} {g : Nat → Int32} : (mH A B v a).set 37 (.inl (0, (8, .inl g))) = mH A B v (va_up a 3 g) := rfl
theorem mst_4 {A : Nat → sx_C} {B : List sx_C} {v : Nat → Int32} {a : Nat → Nat → Int32} {g : Nat → Int32} : (mH A B v a).set 38 (.inl (0, (8, .inl g))) = mH A B v (va_up a 4 g) := rfl
theorem mst_5 {A : Nat → sx_C} {B : List sx_C} {v : Nat → Int32} {a : Nat → Nat → Int32} {g : Nat → Int32} : (mH A B v a).set 39 (.inl (0, (26, .inl g))) = mH A B v (va_up a 5 g) := rfl
theorem mst_6 {A : Nat → sx_C} {B : List sx_C} {v : Nat → Int32} {a : Nat → Nat → Int32} {g : Nat → Int32} : (mH A B v a).set 40 (.inl (0, (26, .inl g))) = mH A B v (va_up a 6 g) := rfl
theorem mst_14 {A : Nat → sx_C} {B : List sx_C} {v : Nat → Int32} {a : Nat → Nat → Int32} {g : Nat → Int32} : (mH A B v a).set 41 (.inl (0, (26000, .inl g))) = mH A B v (va_up a 14 g) := rfl
theorem mst_15 {A : Nat → sx_C} {B : List sx_C} {v : Nat → Int32} {a : Nat → Nat → Int32} {g : Nat → Int32} : (mH A B v a).set 42 (.inl (0, (26000, .inl g))) = mH A B v (va_up a 15 g) := rfl
theorem mst_16 {A : Nat → sx_C} {B : List sx_C} {v : Nat → Int32} {a : Nat → Nat → Int32} {g : Nat → Int32} : (mH A B v a).set 43 (.inl (0, (78000, .inl g))) = mH A B v (va_up a 16 g) := rfl
theorem mst_17 {A : Nat → sx_C} {B : List sx_C} {v : Nat → Int32} {a : Nat → Nat → Int32} {g : Nat → Int32} : (mH A B v a).set 44 (.inl (0, (12000, .inl g))) = mH A B v (va_up a 17 g) := rfl
theorem mst_18 {A : Nat → sx_C} {B : List sx_C} {v : Nat → Int32} {a : Nat → Nat → Int32} {g : Nat → Int32} : (mH A B v a).set 45 (.inl (0, (61, .inl g))) = mH A B v (va_up a 18 g) := rfl
theorem mst_19 {A : Nat → sx_C} {B : List sx_C} {v : Nat → Int32} {a : Nat → Nat → Int32} {g : Nat → Int32} : (mH A B v a).set 46 (.inl (0, (61, .inl g))) = mH A B v (va_up a 19 g) := rfl
theorem mst_20 {A : Nat → sx_C} {B : List sx_C} {v : Nat → Int32} {a : Nat → Nat → Int32} {g : Nat → Int32} : (mH A B v a).set 47 (.inl (0, (61, .inl g))) = mH A B v (va_up a 20 g) := rfl
theorem mst_21 {A : Nat → sx_C} {B : List sx_C} {v : Nat → Int32} {a : Nat → Nat → Int32} {g : Nat → Int32} : (mH A B v a).set 48 (.inl (0, (61, .inl g))) = mH A B v (va_up a 21 g) := rfl
theorem mst_22 {A : Nat → sx_C} {B : List sx_C} {v : Nat → Int32} {a : Nat → Nat → Int32} {g : Nat → Int32} : (mH A B v a).set 49 (.inl (0, (61, .inl g))) = mH A B v (va_up a 22 g) := rfl
theorem mst_23 {A : Nat → sx_C} {B : List sx_C} {v : Nat → Int32} {a : Nat → Nat → Int32} {g : Nat → Int32} : (mH A B v a).set 50 (.inl (0, (61, .inl g))) = mH A B v (va_up a 23 g) := rfl
theorem mst_24 {A : Nat → sx_C} {B : List sx_C} {v : Nat → Int32} {a : Nat → Nat → Int32} {g : Nat → Int32} : (mH A B v a).set 51 (.inl (0, (61, .inl g))) = mH A B v (va_up a 24 g) := rfl
theorem mst_25 {A : Nat → sx_C} {B : List sx_C} {v : Nat → Int32} {a : Nat → Nat → Int32} {g : Nat → Int32} : (mH A B v a).set 52 (.inl (0, (61, .inl g))) = mH A B v (va_up a 25 g) := rfl
theorem mst_26 {A : Nat → sx_C} {B : List sx_C} {v : Nat → Int32} {a : Nat → Nat → Int32} {g : Nat → Int32} : (mH A B v a).set 53 (.inl (0, (854, .inl g))) = mH A B v (va_up a 26 g) := rfl
theorem mst_27 {A : Nat → sx_C} {B : List sx_C} {v : Nat → Int32} {a : Nat → Nat → Int32} {g : Nat → Int32} : (mH A B v a).set 54 (.inl (0, (244, .inl g))) = mH A B v (va_up a 27 g) := rfl
theorem mst_28 {A : Nat → sx_C} {B : List sx_C} {v : Nat → Int32} {a : Nat → Nat → Int32} {g : Nat → Int32} : (mH A B v a).set 55 (.inl (0, (4, .inl g))) = mH A B v (va_up a 28 g) := rfl
theorem mst_29 {A : Nat → sx_C} {B : List sx_C} {v : Nat → Int32} {a : Nat → Nat → Int32} {g : Nat → Int32} : (mH A B v a).set 56 (.inl (0, (14, .inl g))) = mH A B v (va_up a 29 g) := rfl
theorem mst_30 {A : Nat → sx_C} {B : List sx_C} {v : Nat → Int32} {a : Nat → Nat → Int32} {g : Nat → Int32} : (mH A B v a).set 57 (.inl (2, (61, .inl g))) = mH A B v (va_up a 30 g) := rfl
theorem mst_31 {A : Nat → sx_C} {B : List sx_C} {v : Nat → Int32} {a : Nat → Nat → Int32} {g : Nat → Int32} : (mH A B v a).set 58 (.inl (0, (200, .inl g))) = mH A B v (va_up a 31 g) := rfl
theorem mst_32 {A : Nat → sx_C} {B : List sx_C} {v : Nat → Int32} {a : Nat → Nat → Int32} {g : Nat → Int32} : (mH A B v a).set 59 (.inl (0, (200, .inl g))) = mH A B v (va_up a 32 g) := rfl
theorem mst_33 {A : Nat → sx_C} {B : List sx_C} {v : Nat → Int32} {a : Nat → Nat → Int32} {g : Nat → Int32} : (mH A B v a).set 60 (.inl (0, (8, .inl g))) = mH A B v (va_up a 33 g) := rfl
theorem mst_34 {A : Nat → sx_C} {B : List sx_C} {v : Nat → Int32} {a : Nat → Nat → Int32} {g : Nat → Int32} : (mH A B v a).set 61 (.inl (0, (8, .inl g))) = mH A B v (va_up a 34 g) := rfl
theorem mst_35 {A : Nat → sx_C} {B : List sx_C} {v : Nat → Int32} {a : Nat → Nat → Int32} {g : Nat → Int32} : (mH A B v a).set 62 (.inl (0, (80, .inl g))) = mH A B v (va_up a 35 g) := rfl
theorem mst_36 {A : Nat → sx_C} {B : List sx_C} {v : Nat → Int32} {a : Nat → Nat → Int32} {g : Nat → Int32} : (mH A B v a).set 63 (.inl (0, (800, .inl g))) = mH A B v (va_up a 36 g) := rfl
set_option maxRecDepth 20000 in
set_option maxHeartbeats 4000000 in
theorem m_at_ {A : Nat → sx_C} {B : List sx_C} {v : Nat → Int32} {a : Nat → Nat → Int32} {d dc ds : Nat} {P : Option Value ⊕ Nat → sx_H → Nat → Nat → Prop} {i : Int32} (h0 : 0 ≤ i.toInt) (h6 : (v 13).toInt ≤ 624) (h : P (.inl (some (.int (m_at v a i)))) (mH A B v a) dc ds) : s_wp d sM_125 0 [(0, .ref 33), (1, .int i)] [] (mH A B v a) dc ds P := by
  refine w_mv (pc1 := 1) (st1 := [.int i]) rfl rfl rfl ?_
  refine w_mv (pc1 := 2) (st1 := [.ref 33, .int i]) rfl rfl rfl ?_
  refine w_mv (pc1 := 5) (st1 := [.int (v 13), .int i]) rfl rfl rfl ?_
  by_cases h1 : (v 13).toInt ≤ i.toInt
  ·
    refine w_ige_T (pc1 := 17) rfl rfl (show (v 13).toInt ≤ i.toInt by omega) ?_
    refine w_mv (pc1 := 18) (st1 := [.int 0]) rfl rfl rfl ?_
    exact sx_wp.stop rfl rfl rfl (by unfold m_at at h; rw [if_neg (by omega)] at h; exact h)
  ·
    refine w_ige_F (pc1 := 8) rfl (by decide) rfl (show i.toInt < (v 13).toInt by omega) ?_
    refine w_mv (pc1 := 9) (st1 := [.ref 33]) rfl rfl rfl ?_
    refine w_mv (pc1 := 12) (st1 := [.ref 35]) rfl rfl rfl ?_
    refine w_mv (pc1 := 13) (st1 := [.int i, .ref 35]) rfl rfl rfl ?_
    refine w_ald (x := 35) (t := 0) (A := (624, .inl (a 1))) (v := .int ((a 1) i.toNatClampNeg)) (pc1 := 14) rfl rfl rfl rfl rfl (show 0 ≤ i.toInt by omega) (show i.toInt < 624 by omega) rfl rfl ?_
    refine w_mv (pc1 := 18) (st1 := [.int ((a 1) i.toNatClampNeg)]) rfl rfl rfl ?_
    exact sx_wp.stop rfl rfl rfl (by unfold m_at at h; rw [if_pos (by omega)] at h; exact h)
set_option maxRecDepth 20000 in
set_option maxHeartbeats 4000000 in
theorem r_110_0 {e1 : Int64} {v : Nat → Int32} {a : Nat → Nat → Int32} {K : Int32 → (Nat → Int32) → (Nat → Nat → Int32) → Prop} (hh : mT 1 sM_110 9 [(0, .ref 33), (1, .long e1), (3, .int 0), (4, .int 1), (5, .int 56)] [] v a K) : mT 1 sM_110 0 [(0, .ref 33), (1, .long e1)] [] v a K := by
  intro A B d dc ds P hP
  refine w_mv (pc1 := 1) (st1 := [.int 0]) rfl rfl rfl ?_
  refine w_mv (pc1 := 2) (lv1 := [(3, .int 0), (0, .ref 33), (1, .long e1)]) (st1 := []) rfl rfl rfl ?_
  refine w_mv (pc1 := 3) (st1 := [.int 1]) rfl rfl rfl ?_
  refine w_mv (pc1 := 5) (lv1 := [(4, .int 1), (3, .int 0), (0, .ref 33), (1, .long e1)]) (st1 := []) rfl rfl rfl ?_
  refine w_mv (pc1 := 7) (st1 := [.int 56]) rfl rfl rfl ?_
  refine w_mv (pc1 := 9) (lv1 := [(5, .int 56), (4, .int 1), (3, .int 0), (0, .ref 33), (1, .long e1)]) (st1 := []) rfl rfl rfl ?_
  refine w_wk (l1 := [(0, .ref 33), (1, .long e1), (3, .int 0), (4, .int 1), (5, .int 56)]) rfl ⟨rfl, rfl, rfl, rfl, rfl, trivial⟩ ?_
  exact hh A B d dc ds P hP
set_option maxRecDepth 20000 in
set_option maxHeartbeats 4000000 in
theorem r_110_9 {e1 : Int64} {p3 : Int32} {p4 : Int32} {p5 : Int32} {v : Nat → Int32} {a : Nat → Nat → Int32} {K : Int32 → (Nat → Int32) → (Nat → Nat → Int32) → Prop} (hh : ((p5.toInt < 0 → ((p4.toInt = 0 → ((p4.toInt ≠ 0 → (((v 7 + p3).toInt ≤ 48 → mT 1 sM_110 91 [(0, .ref 33), (1, .long e1), (3, .int p3), (4, .int p4), (5, .int 56)] [] (va_up v 11 1) a K) ∧ (48 < (v 7 + p3).toInt → K 0 (va_up v 11 2) a))) ∧ (p4.toInt = 0 → K 0 (va_up v 11 1) a))) ∧ (p4.toInt ≠ 0 → ((p4.toInt ≠ 0 → (((v 7 + p3).toInt ≤ 48 → mT 1 sM_110 91 [(0, .ref 33), (1, .long e1), (3, .int p3), (4, .int p4), (5, .int 56)] [] (va_up v 11 0) a K) ∧ (48 < (v 7 + p3).toInt → K 0 (va_up v 11 2) a))) ∧ (p4.toInt = 0 → K 0 (va_up v 11 0) a))))) ∧ (0 ≤ p5.toInt → (((ty_b e1 p5).toInt = 0 → (((ty_b e1 p5).toInt = 0 → mT 1 sM_110 9 [(0, .ref 33), (1, .long e1), (3, .int p3), (4, .int p4), (5, .int (p5 + (-8)))] [] v a K) ∧ ((ty_b e1 p5).toInt ≠ 0 → ((33 ≤ (ty_b e1 p5).toInt → (ty_b e1 p5).toInt ≤ 126 → mT 1 sM_110 9 [(0, .ref 33), (1, .long e1), (3, .int p3), (4, .int p4), (5, .int (p5 + (-8)))] [] v a K) ∧ (((ty_b e1 p5).toInt < 33 ∨ 126 < (ty_b e1 p5).toInt) → mT 1 sM_110 9 [(0, .ref 33), (1, .long e1), (3, .int p3), (4, .int 0), (5, .int (p5 + (-8)))] [] v a K))))) ∧ ((ty_b e1 p5).toInt ≠ 0 → (((ty_b e1 p5).toInt = 0 → mT 1 sM_110 9 [(0, .ref 33), (1, .long e1), (3, .int (p3 + 1)), (4, .int p4), (5, .int (p5 + (-8)))] [] v a K) ∧ ((ty_b e1 p5).toInt ≠ 0 → ((33 ≤ (ty_b e1 p5).toInt → (ty_b e1 p5).toInt ≤ 126 → mT 1 sM_110 9 [(0, .ref 33), (1, .long e1), (3, .int (p3 + 1)), (4, .int p4), (5, .int (p5 + (-8)))] [] v a K) ∧ (((ty_b e1 p5).toInt < 33 ∨ 126 < (ty_b e1 p5).toInt) → mT 1 sM_110 9 [(0, .ref 33), (1, .long e1), (3, .int (p3 + 1)), (4, .int 0), (5, .int (p5 + (-8)))] [] v a K))))))))) : mT 1 sM_110 9 [(0, .ref 33), (1, .long e1), (3, .int p3), (4, .int p4), (5, .int p5)] [] v a K := by
  intro A B d dc ds P hP
  refine w_mv (pc1 := 11) (st1 := [.int p5]) rfl rfl rfl ?_
  by_cases h1 : p5.toInt < 0
  ·
    replace hh := hh.1 h1
    refine w_zlt_T (pc1 := 59) rfl rfl (show p5.toInt < 0 from h1) ?_
    refine w_mv (pc1 := 60) (st1 := [.ref 33]) rfl rfl rfl ?_
    refine w_mv (pc1 := 62) (st1 := [.int p4, .ref 33]) rfl rfl rfl ?_
    refine w_call (M' := sM_112) (vals := [.ref 33, .int p4]) (rest := []) (lv' := [(0, .ref 33), (1, .int p4)]) rfl rfl rfl rfl rfl rfl rfl rfl rfl rfl ?_
    refine w_mv (pc1 := 1) (st1 := [.ref 33]) rfl rfl rfl ?_
    refine w_mv (pc1 := 2) (st1 := [.int p4, .ref 33]) rfl rfl rfl ?_
    by_cases h2 : p4.toInt = 0
    ·
      replace hh := hh.1 h2
      refine w_zeq_T (pc1 := 9) rfl rfl (show p4.toInt = 0 from h2) ?_
      refine w_mv (pc1 := 10) (st1 := [.int 1, .ref 33]) rfl rfl rfl ?_
      refine w_st (pc1 := 13) (st1 := []) (hs1 := mH A B (va_up v 11 1) a) (dc1 := 0) (ds1 := 0) (dc2 := dc) (ds2 := ds) rfl rfl rfl rfl rfl ?_
      refine w_mv (pc1 := 14) (st1 := [.int p4]) rfl rfl rfl ?_
      by_cases h3 : p4.toInt = 0
      ·
        replace hh := hh.2 h3
        refine w_zne_F (pc1 := 17) rfl (by decide) rfl (show p4.toInt = 0 from h3) ?_
        refine w_mv (pc1 := 18) (st1 := [.int 1]) rfl rfl rfl ?_
        refine w_mv (pc1 := 22) (st1 := [.int 1]) rfl rfl rfl ?_
        refine w_iret (pc1 := 65) rfl rfl rfl rfl ?_
        refine w_mv (pc1 := 68) (st1 := []) rfl rfl rfl ?_
        refine w_mv (pc1 := 69) (st1 := [.int 0]) rfl rfl rfl ?_
        exact sx_wp.stop rfl rfl rfl (hP 0 _ _ hh)
      ·
        replace hh := hh.1 h3
        refine w_zne_T (pc1 := 21) rfl rfl (show p4.toInt ≠ 0 from h3) ?_
        refine w_mv (pc1 := 22) (st1 := [.int 0]) rfl rfl rfl ?_
        refine w_iret (pc1 := 65) rfl rfl rfl rfl ?_
        refine w_mv (pc1 := 70) (st1 := []) rfl rfl rfl ?_
        refine w_mv (pc1 := 71) (st1 := [.ref 33]) rfl rfl rfl ?_
        refine w_mv (pc1 := 74) (st1 := [.int (v 7)]) rfl rfl rfl ?_
        refine w_mv (pc1 := 75) (st1 := [.int p3, .int (v 7)]) rfl rfl rfl ?_
        refine w_mv (pc1 := 76) (st1 := [.int (v 7 + p3)]) rfl rfl rfl ?_
        refine w_mv (pc1 := 78) (st1 := [.int 48, .int (v 7 + p3)]) rfl rfl rfl ?_
        by_cases h4 : (v 7 + p3).toInt ≤ 48
        ·
          replace hh := hh.1 h4
          refine w_ile_T (pc1 := 87) rfl rfl (show (v 7 + p3).toInt ≤ 48 from h4) ?_
          refine w_mv (pc1 := 89) (st1 := [.int 56]) rfl rfl rfl ?_
          refine w_mv (pc1 := 91) (lv1 := [(5, .int 56), (0, .ref 33), (1, .long e1), (3, .int p3), (4, .int p4)]) (st1 := []) rfl rfl rfl ?_
          refine w_wk (l1 := [(0, .ref 33), (1, .long e1), (3, .int p3), (4, .int p4), (5, .int 56)]) rfl ⟨rfl, rfl, rfl, rfl, rfl, trivial⟩ ?_
          exact hh A B d dc ds P hP
        ·
          replace hh := hh.2 (Int.not_le.mp h4)
          refine w_ile_F (pc1 := 81) rfl (by decide) rfl (show 48 < (v 7 + p3).toInt from (Int.not_le.mp h4)) ?_
          refine w_mv (pc1 := 82) (st1 := [.ref 33]) rfl rfl rfl ?_
          refine w_mv (pc1 := 83) (st1 := [.int 2, .ref 33]) rfl rfl rfl ?_
          refine w_call (M' := sM_113) (vals := [.ref 33, .int 2]) (rest := []) (lv' := [(0, .ref 33), (1, .int 2)]) rfl rfl rfl rfl rfl rfl rfl rfl rfl rfl ?_
          refine w_mv (pc1 := 1) (st1 := [.ref 33]) rfl rfl rfl ?_
          refine w_mv (pc1 := 2) (st1 := [.int 2, .ref 33]) rfl rfl rfl ?_
          refine w_st (pc1 := 5) (st1 := []) (hs1 := mH A B (va_up v 11 2) a) (dc1 := 0) (ds1 := 0) (dc2 := dc) (ds2 := ds) rfl rfl rfl rfl rfl ?_
          refine w_mv (pc1 := 6) (st1 := [.int 0]) rfl rfl rfl ?_
          refine w_iret (pc1 := 86) rfl rfl rfl rfl ?_
          exact sx_wp.stop rfl rfl rfl (hP 0 _ _ hh)
    ·
      replace hh := hh.2 h2
      refine w_zeq_F (pc1 := 5) rfl (by decide) rfl (show p4.toInt ≠ 0 from h2) ?_
      refine w_mv (pc1 := 6) (st1 := [.int 0, .ref 33]) rfl rfl rfl ?_
      refine w_mv (pc1 := 10) (st1 := [.int 0, .ref 33]) rfl rfl rfl ?_
      refine w_st (pc1 := 13) (st1 := []) (hs1 := mH A B (va_up v 11 0) a) (dc1 := 0) (ds1 := 0) (dc2 := dc) (ds2 := ds) rfl rfl rfl rfl rfl ?_
      refine w_mv (pc1 := 14) (st1 := [.int p4]) rfl rfl rfl ?_
      by_cases h5 : p4.toInt = 0
      ·
        replace hh := hh.2 h5
        refine w_zne_F (pc1 := 17) rfl (by decide) rfl (show p4.toInt = 0 from h5) ?_
        refine w_mv (pc1 := 18) (st1 := [.int 1]) rfl rfl rfl ?_
        refine w_mv (pc1 := 22) (st1 := [.int 1]) rfl rfl rfl ?_
        refine w_iret (pc1 := 65) rfl rfl rfl rfl ?_
        refine w_mv (pc1 := 68) (st1 := []) rfl rfl rfl ?_
        refine w_mv (pc1 := 69) (st1 := [.int 0]) rfl rfl rfl ?_
        exact sx_wp.stop rfl rfl rfl (hP 0 _ _ hh)
      ·
        replace hh := hh.1 h5
        refine w_zne_T (pc1 := 21) rfl rfl (show p4.toInt ≠ 0 from h5) ?_
        refine w_mv (pc1 := 22) (st1 := [.int 0]) rfl rfl rfl ?_
        refine w_iret (pc1 := 65) rfl rfl rfl rfl ?_
        refine w_mv (pc1 := 70) (st1 := []) rfl rfl rfl ?_
        refine w_mv (pc1 := 71) (st1 := [.ref 33]) rfl rfl rfl ?_
        refine w_mv (pc1 := 74) (st1 := [.int (v 7)]) rfl rfl rfl ?_
        refine w_mv (pc1 := 75) (st1 := [.int p3, .int (v 7)]) rfl rfl rfl ?_
        refine w_mv (pc1 := 76) (st1 := [.int (v 7 + p3)]) rfl rfl rfl ?_
        refine w_mv (pc1 := 78) (st1 := [.int 48, .int (v 7 + p3)]) rfl rfl rfl ?_
        by_cases h6 : (v 7 + p3).toInt ≤ 48
        ·
          replace hh := hh.1 h6
          refine w_ile_T (pc1 := 87) rfl rfl (show (v 7 + p3).toInt ≤ 48 from h6) ?_
          refine w_mv (pc1 := 89) (st1 := [.int 56]) rfl rfl rfl ?_
          refine w_mv (pc1 := 91) (lv1 := [(5, .int 56), (0, .ref 33), (1, .long e1), (3, .int p3), (4, .int p4)]) (st1 := []) rfl rfl rfl ?_
          refine w_wk (l1 := [(0, .ref 33), (1, .long e1), (3, .int p3), (4, .int p4), (5, .int 56)]) rfl ⟨rfl, rfl, rfl, rfl, rfl, trivial⟩ ?_
          exact hh A B d dc ds P hP
        ·
          replace hh := hh.2 (Int.not_le.mp h6)
          refine w_ile_F (pc1 := 81) rfl (by decide) rfl (show 48 < (v 7 + p3).toInt from (Int.not_le.mp h6)) ?_
          refine w_mv (pc1 := 82) (st1 := [.ref 33]) rfl rfl rfl ?_
          refine w_mv (pc1 := 83) (st1 := [.int 2, .ref 33]) rfl rfl rfl ?_
          refine w_call (M' := sM_113) (vals := [.ref 33, .int 2]) (rest := []) (lv' := [(0, .ref 33), (1, .int 2)]) rfl rfl rfl rfl rfl rfl rfl rfl rfl rfl ?_
          refine w_mv (pc1 := 1) (st1 := [.ref 33]) rfl rfl rfl ?_
          refine w_mv (pc1 := 2) (st1 := [.int 2, .ref 33]) rfl rfl rfl ?_
          refine w_st (pc1 := 5) (st1 := []) (hs1 := mH A B (va_up v 11 2) a) (dc1 := 0) (ds1 := 0) (dc2 := dc) (ds2 := ds) rfl rfl rfl rfl rfl ?_
          refine w_mv (pc1 := 6) (st1 := [.int 0]) rfl rfl rfl ?_
          refine w_iret (pc1 := 86) rfl rfl rfl rfl ?_
          exact sx_wp.stop rfl rfl rfl (hP 0 _ _ hh)
  ·
    replace hh := hh.2 (Int.not_lt.mp h1)
    refine w_zlt_F (pc1 := 14) rfl (by decide) rfl (show 0 ≤ p5.toInt from (Int.not_lt.mp h1)) ?_
    refine w_mv (pc1 := 15) (st1 := [.long e1]) rfl rfl rfl ?_
    refine w_mv (pc1 := 17) (st1 := [.int p5, .long e1]) rfl rfl rfl ?_
    refine w_mv (pc1 := 18) (st1 := [.long (UInt64.toInt64 (Int64.toUInt64 e1 >>> (Int64.toUInt64 (Int32.toInt64 p5) &&& Int64.toUInt64 63)))]) rfl rfl rfl ?_
    refine w_mv (pc1 := 19) (st1 := [.int (Int64.toInt32 (UInt64.toInt64 (Int64.toUInt64 e1 >>> (Int64.toUInt64 (Int32.toInt64 p5) &&& Int64.toUInt64 63))))]) rfl rfl rfl ?_
    refine w_mv (pc1 := 22) (st1 := [.int 255, .int (Int64.toInt32 (UInt64.toInt64 (Int64.toUInt64 e1 >>> (Int64.toUInt64 (Int32.toInt64 p5) &&& Int64.toUInt64 63))))]) rfl rfl rfl ?_
    refine w_mv (pc1 := 23) (st1 := [.int (ty_b e1 p5)]) rfl rfl rfl ?_
    refine w_mv (pc1 := 25) (lv1 := [(6, .int (ty_b e1 p5)), (0, .ref 33), (1, .long e1), (3, .int p3), (4, .int p4), (5, .int p5)]) (st1 := []) rfl rfl rfl ?_
    refine w_mv (pc1 := 27) (st1 := [.int (ty_b e1 p5)]) rfl rfl rfl ?_
    by_cases h7 : (ty_b e1 p5).toInt = 0
    ·
      replace hh := hh.1 h7
      refine w_zeq_T (pc1 := 33) rfl rfl (show (ty_b e1 p5).toInt = 0 from h7) ?_
      refine w_mv (pc1 := 35) (st1 := [.int (ty_b e1 p5)]) rfl rfl rfl ?_
      by_cases h8 : (ty_b e1 p5).toInt = 0
      ·
        replace hh := hh.1 h8
        refine w_zeq_T (pc1 := 53) rfl rfl (show (ty_b e1 p5).toInt = 0 from h8) ?_
        refine w_mv (pc1 := 56) (lv1 := [(5, .int (p5 + (-8))), (6, .int (ty_b e1 p5)), (0, .ref 33), (1, .long e1), (3, .int p3), (4, .int p4)]) (st1 := []) rfl rfl rfl ?_
        refine w_mv (pc1 := 9) (st1 := []) rfl rfl rfl ?_
        refine w_wk (l1 := [(0, .ref 33), (1, .long e1), (3, .int p3), (4, .int p4), (5, .int (p5 + (-8)))]) rfl ⟨rfl, rfl, rfl, rfl, rfl, trivial⟩ ?_
        exact hh A B d dc ds P hP
      ·
        replace hh := hh.2 h8
        refine w_zeq_F (pc1 := 38) rfl (by decide) rfl (show (ty_b e1 p5).toInt ≠ 0 from h8) ?_
        refine w_mv (pc1 := 40) (st1 := [.int (ty_b e1 p5)]) rfl rfl rfl ?_
        refine w_mv (pc1 := 42) (st1 := [.int 33, .int (ty_b e1 p5)]) rfl rfl rfl ?_
        refine w_mv (pc1 := 44) (st1 := [.int 126, .int 33, .int (ty_b e1 p5)]) rfl rfl rfl ?_
        refine w_call (M' := sM_111) (vals := [.int (ty_b e1 p5), .int 33, .int 126]) (rest := []) (lv' := [(0, .int (ty_b e1 p5)), (1, .int 33), (2, .int 126)]) rfl rfl rfl rfl rfl rfl rfl rfl rfl rfl ?_
        refine m_in (fun h9a h9b => ?_) (fun h9c => ?_)
        ·
          replace hh := hh.1 h9a h9b
          refine w_ki (pc1 := 47) rfl ?_
          refine w_mv (pc1 := 53) (st1 := []) rfl rfl rfl ?_
          refine w_mv (pc1 := 56) (lv1 := [(5, .int (p5 + (-8))), (6, .int (ty_b e1 p5)), (0, .ref 33), (1, .long e1), (3, .int p3), (4, .int p4)]) (st1 := []) rfl rfl rfl ?_
          refine w_mv (pc1 := 9) (st1 := []) rfl rfl rfl ?_
          refine w_wk (l1 := [(0, .ref 33), (1, .long e1), (3, .int p3), (4, .int p4), (5, .int (p5 + (-8)))]) rfl ⟨rfl, rfl, rfl, rfl, rfl, trivial⟩ ?_
          exact hh A B d dc ds P hP
        ·
          replace hh := hh.2 h9c
          refine w_ki (pc1 := 47) rfl ?_
          refine w_mv (pc1 := 50) (st1 := []) rfl rfl rfl ?_
          refine w_mv (pc1 := 51) (st1 := [.int 0]) rfl rfl rfl ?_
          refine w_mv (pc1 := 53) (lv1 := [(4, .int 0), (6, .int (ty_b e1 p5)), (0, .ref 33), (1, .long e1), (3, .int p3), (5, .int p5)]) (st1 := []) rfl rfl rfl ?_
          refine w_mv (pc1 := 56) (lv1 := [(5, .int (p5 + (-8))), (4, .int 0), (6, .int (ty_b e1 p5)), (0, .ref 33), (1, .long e1), (3, .int p3)]) (st1 := []) rfl rfl rfl ?_
          refine w_mv (pc1 := 9) (st1 := []) rfl rfl rfl ?_
          refine w_wk (l1 := [(0, .ref 33), (1, .long e1), (3, .int p3), (4, .int 0), (5, .int (p5 + (-8)))]) rfl ⟨rfl, rfl, rfl, rfl, rfl, trivial⟩ ?_
          exact hh A B d dc ds P hP
    ·
      replace hh := hh.2 h7
      refine w_zeq_F (pc1 := 30) rfl (by decide) rfl (show (ty_b e1 p5).toInt ≠ 0 from h7) ?_
      refine w_mv (pc1 := 33) (lv1 := [(3, .int (p3 + 1)), (6, .int (ty_b e1 p5)), (0, .ref 33), (1, .long e1), (4, .int p4), (5, .int p5)]) (st1 := []) rfl rfl rfl ?_
      refine w_mv (pc1 := 35) (st1 := [.int (ty_b e1 p5)]) rfl rfl rfl ?_
      by_cases h10 : (ty_b e1 p5).toInt = 0
      ·
        replace hh := hh.1 h10
        refine w_zeq_T (pc1 := 53) rfl rfl (show (ty_b e1 p5).toInt = 0 from h10) ?_
        refine w_mv (pc1 := 56) (lv1 := [(5, .int (p5 + (-8))), (3, .int (p3 + 1)), (6, .int (ty_b e1 p5)), (0, .ref 33), (1, .long e1), (4, .int p4)]) (st1 := []) rfl rfl rfl ?_
        refine w_mv (pc1 := 9) (st1 := []) rfl rfl rfl ?_
        refine w_wk (l1 := [(0, .ref 33), (1, .long e1), (3, .int (p3 + 1)), (4, .int p4), (5, .int (p5 + (-8)))]) rfl ⟨rfl, rfl, rfl, rfl, rfl, trivial⟩ ?_
        exact hh A B d dc ds P hP
      ·
        replace hh := hh.2 h10
        refine w_zeq_F (pc1 := 38) rfl (by decide) rfl (show (ty_b e1 p5).toInt ≠ 0 from h10) ?_
        refine w_mv (pc1 := 40) (st1 := [.int (ty_b e1 p5)]) rfl rfl rfl ?_
        refine w_mv (pc1 := 42) (st1 := [.int 33, .int (ty_b e1 p5)]) rfl rfl rfl ?_
        refine w_mv (pc1 := 44) (st1 := [.int 126, .int 33, .int (ty_b e1 p5)]) rfl rfl rfl ?_
        refine w_call (M' := sM_111) (vals := [.int (ty_b e1 p5), .int 33, .int 126]) (rest := []) (lv' := [(0, .int (ty_b e1 p5)), (1, .int 33), (2, .int 126)]) rfl rfl rfl rfl rfl rfl rfl rfl rfl rfl ?_
        refine m_in (fun h11a h11b => ?_) (fun h11c => ?_)
        ·
          replace hh := hh.1 h11a h11b
          refine w_ki (pc1 := 47) rfl ?_
          refine w_mv (pc1 := 53) (st1 := []) rfl rfl rfl ?_
          refine w_mv (pc1 := 56) (lv1 := [(5, .int (p5 + (-8))), (3, .int (p3 + 1)), (6, .int (ty_b e1 p5)), (0, .ref 33), (1, .long e1), (4, .int p4)]) (st1 := []) rfl rfl rfl ?_
          refine w_mv (pc1 := 9) (st1 := []) rfl rfl rfl ?_
          refine w_wk (l1 := [(0, .ref 33), (1, .long e1), (3, .int (p3 + 1)), (4, .int p4), (5, .int (p5 + (-8)))]) rfl ⟨rfl, rfl, rfl, rfl, rfl, trivial⟩ ?_
          exact hh A B d dc ds P hP
        ·
          replace hh := hh.2 h11c
          refine w_ki (pc1 := 47) rfl ?_
          refine w_mv (pc1 := 50) (st1 := []) rfl rfl rfl ?_
          refine w_mv (pc1 := 51) (st1 := [.int 0]) rfl rfl rfl ?_
          refine w_mv (pc1 := 53) (lv1 := [(4, .int 0), (3, .int (p3 + 1)), (6, .int (ty_b e1 p5)), (0, .ref 33), (1, .long e1), (5, .int p5)]) (st1 := []) rfl rfl rfl ?_
          refine w_mv (pc1 := 56) (lv1 := [(5, .int (p5 + (-8))), (4, .int 0), (3, .int (p3 + 1)), (6, .int (ty_b e1 p5)), (0, .ref 33), (1, .long e1)]) (st1 := []) rfl rfl rfl ?_
          refine w_mv (pc1 := 9) (st1 := []) rfl rfl rfl ?_
          refine w_wk (l1 := [(0, .ref 33), (1, .long e1), (3, .int (p3 + 1)), (4, .int 0), (5, .int (p5 + (-8)))]) rfl ⟨rfl, rfl, rfl, rfl, rfl, trivial⟩ ?_
          exact hh A B d dc ds P hP
set_option maxRecDepth 20000 in
set_option maxHeartbeats 4000000 in
theorem r_110_91 {e1 : Int64} {p3 : Int32} {p4 : Int32} {p5 : Int32} {v : Nat → Int32} {a : Nat → Nat → Int32} {K : Int32 → (Nat → Int32) → (Nat → Nat → Int32) → Prop} (hh : ((p5.toInt < 0 → K (v 7) v a) ∧ (0 ≤ p5.toInt → (((ty_b e1 p5).toInt ≠ 0 → 0 ≤ (v 7).toInt ∧ (v 7).toInt < 48 ∧ mT 1 sM_110 91 [(0, .ref 33), (1, .long e1), (3, .int p3), (4, .int p4), (5, .int (p5 + (-8)))] [] (va_up v 7 (v 7 + 1)) (va_up a 0 (upd (a 0) (v 7).toNatClampNeg (ty_b e1 p5))) K) ∧ ((ty_b e1 p5).toInt = 0 → mT 1 sM_110 91 [(0, .ref 33), (1, .long e1), (3, .int p3), (4, .int p4), (5, .int (p5 + (-8)))] [] v a K))))) : mT 1 sM_110 91 [(0, .ref 33), (1, .long e1), (3, .int p3), (4, .int p4), (5, .int p5)] [] v a K := by
  intro A B d dc ds P hP
  refine w_mv (pc1 := 93) (st1 := [.int p5]) rfl rfl rfl ?_
  by_cases h1 : p5.toInt < 0
  ·
    replace hh := hh.1 h1
    refine w_zlt_T (pc1 := 142) rfl rfl (show p5.toInt < 0 from h1) ?_
    refine w_mv (pc1 := 143) (st1 := [.ref 33]) rfl rfl rfl ?_
    refine w_mv (pc1 := 146) (st1 := [.int (v 7)]) rfl rfl rfl ?_
    exact sx_wp.stop rfl rfl rfl (hP (v 7) _ _ hh)
  ·
    replace hh := hh.2 (Int.not_lt.mp h1)
    refine w_zlt_F (pc1 := 96) rfl (by decide) rfl (show 0 ≤ p5.toInt from (Int.not_lt.mp h1)) ?_
    refine w_mv (pc1 := 97) (st1 := [.long e1]) rfl rfl rfl ?_
    refine w_mv (pc1 := 99) (st1 := [.int p5, .long e1]) rfl rfl rfl ?_
    refine w_mv (pc1 := 100) (st1 := [.long (UInt64.toInt64 (Int64.toUInt64 e1 >>> (Int64.toUInt64 (Int32.toInt64 p5) &&& Int64.toUInt64 63)))]) rfl rfl rfl ?_
    refine w_mv (pc1 := 101) (st1 := [.int (Int64.toInt32 (UInt64.toInt64 (Int64.toUInt64 e1 >>> (Int64.toUInt64 (Int32.toInt64 p5) &&& Int64.toUInt64 63))))]) rfl rfl rfl ?_
    refine w_mv (pc1 := 104) (st1 := [.int 255, .int (Int64.toInt32 (UInt64.toInt64 (Int64.toUInt64 e1 >>> (Int64.toUInt64 (Int32.toInt64 p5) &&& Int64.toUInt64 63))))]) rfl rfl rfl ?_
    refine w_mv (pc1 := 105) (st1 := [.int (ty_b e1 p5)]) rfl rfl rfl ?_
    refine w_mv (pc1 := 107) (lv1 := [(6, .int (ty_b e1 p5)), (0, .ref 33), (1, .long e1), (3, .int p3), (4, .int p4), (5, .int p5)]) (st1 := []) rfl rfl rfl ?_
    refine w_mv (pc1 := 109) (st1 := [.int (ty_b e1 p5)]) rfl rfl rfl ?_
    by_cases h2 : (ty_b e1 p5).toInt = 0
    ·
      replace hh := hh.2 h2
      refine w_zne_F (pc1 := 112) rfl (by decide) rfl (show (ty_b e1 p5).toInt = 0 from h2) ?_
      refine w_mv (pc1 := 136) (st1 := []) rfl rfl rfl ?_
      refine w_mv (pc1 := 139) (lv1 := [(5, .int (p5 + (-8))), (6, .int (ty_b e1 p5)), (0, .ref 33), (1, .long e1), (3, .int p3), (4, .int p4)]) (st1 := []) rfl rfl rfl ?_
      refine w_mv (pc1 := 91) (st1 := []) rfl rfl rfl ?_
      refine w_wk (l1 := [(0, .ref 33), (1, .long e1), (3, .int p3), (4, .int p4), (5, .int (p5 + (-8)))]) rfl ⟨rfl, rfl, rfl, rfl, rfl, trivial⟩ ?_
      exact hh A B d dc ds P hP
    ·
      replace hh := hh.1 h2
      refine w_zne_T (pc1 := 115) rfl rfl (show (ty_b e1 p5).toInt ≠ 0 from h2) ?_
      refine w_mv (pc1 := 116) (st1 := [.ref 33]) rfl rfl rfl ?_
      refine w_mv (pc1 := 119) (st1 := [.ref 34]) rfl rfl rfl ?_
      refine w_mv (pc1 := 120) (st1 := [.ref 33, .ref 34]) rfl rfl rfl ?_
      refine w_mv (pc1 := 123) (st1 := [.int (v 7), .ref 34]) rfl rfl rfl ?_
      refine w_mv (pc1 := 125) (st1 := [.int (ty_b e1 p5), .int (v 7), .ref 34]) rfl rfl rfl ?_
      obtain ⟨o3a, o3b, hh⟩ := hh
      refine w_ast (x := 34) (t := 0) (n := 48) (f := (a 0)) (ty := .int) (nw := fun x => x) (pc1 := 126) (hs1 := mH A B v (va_up a 0 (upd (a 0) (v 7).toNatClampNeg (ty_b e1 p5)))) rfl rfl rfl rfl rfl rfl o3a o3b rfl mst_0 ?_
      refine w_mv (pc1 := 127) (st1 := [.ref 33]) rfl rfl rfl ?_
      refine w_mv (pc1 := 128) (st1 := [.ref 33, .ref 33]) rfl rfl rfl ?_
      refine w_mv (pc1 := 131) (st1 := [.int (v 7), .ref 33]) rfl rfl rfl ?_
      refine w_mv (pc1 := 132) (st1 := [.int 1, .int (v 7), .ref 33]) rfl rfl rfl ?_
      refine w_mv (pc1 := 133) (st1 := [.int (v 7 + 1), .ref 33]) rfl rfl rfl ?_
      refine w_st (pc1 := 136) (st1 := []) (hs1 := mH A B (va_up v 7 (v 7 + 1)) (va_up a 0 (upd (a 0) (v 7).toNatClampNeg (ty_b e1 p5)))) (dc1 := 0) (ds1 := 0) (dc2 := dc) (ds2 := ds) rfl rfl rfl rfl rfl ?_
      refine w_mv (pc1 := 139) (lv1 := [(5, .int (p5 + (-8))), (6, .int (ty_b e1 p5)), (0, .ref 33), (1, .long e1), (3, .int p3), (4, .int p4)]) (st1 := []) rfl rfl rfl ?_
      refine w_mv (pc1 := 91) (st1 := []) rfl rfl rfl ?_
      refine w_wk (l1 := [(0, .ref 33), (1, .long e1), (3, .int p3), (4, .int p4), (5, .int (p5 + (-8)))]) rfl ⟨rfl, rfl, rfl, rfl, rfl, trivial⟩ ?_
      exact hh A B d dc ds P hP
set_option maxRecDepth 20000 in
set_option maxHeartbeats 4000000 in
theorem r_114_0  {v : Nat → Int32} {a : Nat → Nat → Int32} {K : Int32 → (Nat → Int32) → (Nat → Nat → Int32) → Prop} (hh : (((v 8).toInt ≠ 12 → mT 4 sM_115 0 [(0, .ref 33)] [] (va_up v 10 0) a (fun r2 v2 a2 => ((r2.toInt ≠ 0 → mT 5 sM_114 44 [(0, .ref 33), (1, .int r2), (2, .int 0)] [] v2 a2 K) ∧ (r2.toInt = 0 → mT 5 sM_114 44 [(0, .ref 33), (1, .int r2), (2, .int 0)] [] (va_up v2 9 (v2 10)) a2 K)))) ∧ ((v 8).toInt = 12 → K 0 (va_up (va_up v 7 0) 11 2) a))) : mT 5 sM_114 0 [(0, .ref 33)] [] v a K := by
  intro A B d dc ds P hP
  refine w_mv (pc1 := 1) (st1 := [.ref 33]) rfl rfl rfl ?_
  refine w_mv (pc1 := 4) (st1 := [.int (v 8)]) rfl rfl rfl ?_
  refine w_mv (pc1 := 6) (st1 := [.int 12, .int (v 8)]) rfl rfl rfl ?_
  by_cases h1 : (v 8).toInt = 12
  ·
    replace hh := hh.2 h1
    refine w_ine_F (pc1 := 9) rfl (by decide) rfl (show (v 8).toInt = 12 from h1) ?_
    refine w_mv (pc1 := 10) (st1 := [.ref 33]) rfl rfl rfl ?_
    refine w_mv (pc1 := 11) (st1 := [.int 0, .ref 33]) rfl rfl rfl ?_
    refine w_st (pc1 := 14) (st1 := []) (hs1 := mH A B (va_up v 7 0) a) (dc1 := 0) (ds1 := 0) (dc2 := dc) (ds2 := ds) rfl rfl rfl rfl rfl ?_
    refine w_mv (pc1 := 15) (st1 := [.ref 33]) rfl rfl rfl ?_
    refine w_mv (pc1 := 16) (st1 := [.int 2, .ref 33]) rfl rfl rfl ?_
    refine w_call (M' := sM_113) (vals := [.ref 33, .int 2]) (rest := []) (lv' := [(0, .ref 33), (1, .int 2)]) rfl rfl rfl rfl rfl rfl rfl rfl rfl rfl ?_
    refine w_mv (pc1 := 1) (st1 := [.ref 33]) rfl rfl rfl ?_
    refine w_mv (pc1 := 2) (st1 := [.int 2, .ref 33]) rfl rfl rfl ?_
    refine w_st (pc1 := 5) (st1 := []) (hs1 := mH A B (va_up (va_up v 7 0) 11 2) a) (dc1 := 0) (ds1 := 0) (dc2 := dc) (ds2 := ds) rfl rfl rfl rfl rfl ?_
    refine w_mv (pc1 := 6) (st1 := [.int 0]) rfl rfl rfl ?_
    refine w_iret (pc1 := 19) rfl rfl rfl rfl ?_
    exact sx_wp.stop rfl rfl rfl (hP 0 _ _ hh)
  ·
    replace hh := hh.1 h1
    refine w_ine_T (pc1 := 20) rfl rfl (show (v 8).toInt ≠ 12 from h1) ?_
    refine w_mv (pc1 := 21) (st1 := [.ref 33]) rfl rfl rfl ?_
    refine w_mv (pc1 := 22) (st1 := [.int 0, .ref 33]) rfl rfl rfl ?_
    refine w_st (pc1 := 25) (st1 := []) (hs1 := mH A B (va_up v 10 0) a) (dc1 := 0) (ds1 := 0) (dc2 := dc) (ds2 := ds) rfl rfl rfl rfl rfl ?_
    refine w_mv (pc1 := 26) (st1 := [.ref 33]) rfl rfl rfl ?_
    refine w_call (M' := sM_115) (vals := [.ref 33]) (rest := []) (lv' := [(0, .ref 33)]) rfl rfl rfl rfl rfl rfl rfl rfl rfl rfl ?_
    refine hh A B _ dc ds _ (fun r2 v2 a2 hh => ?_)
    show s_kont _ _ _ _ _ _ _ (.inl (some (.int r2))) (mH A B v2 a2) dc ds
    refine w_ki (pc1 := 29) rfl ?_
    refine w_mv (pc1 := 30) (lv1 := [(1, .int r2), (0, .ref 33)]) (st1 := []) rfl rfl rfl ?_
    refine w_mv (pc1 := 31) (st1 := [.int r2]) rfl rfl rfl ?_
    by_cases h3 : r2.toInt = 0
    ·
      replace hh := hh.2 h3
      refine w_zne_F (pc1 := 34) rfl (by decide) rfl (show r2.toInt = 0 from h3) ?_
      refine w_mv (pc1 := 35) (st1 := [.ref 33]) rfl rfl rfl ?_
      refine w_mv (pc1 := 36) (st1 := [.ref 33, .ref 33]) rfl rfl rfl ?_
      refine w_mv (pc1 := 39) (st1 := [.int (v2 10), .ref 33]) rfl rfl rfl ?_
      refine w_st (pc1 := 42) (st1 := []) (hs1 := mH A B (va_up v2 9 (v2 10)) a2) (dc1 := 0) (ds1 := 0) (dc2 := dc) (ds2 := ds) rfl rfl rfl rfl rfl ?_
      refine w_mv (pc1 := 43) (st1 := [.int 0]) rfl rfl rfl ?_
      refine w_mv (pc1 := 44) (lv1 := [(2, .int 0), (1, .int r2), (0, .ref 33)]) (st1 := []) rfl rfl rfl ?_
      refine w_wk (l1 := [(0, .ref 33), (1, .int r2), (2, .int 0)]) rfl ⟨rfl, rfl, rfl, trivial⟩ ?_
      exact hh A B d dc ds P hP
    ·
      replace hh := hh.1 h3
      refine w_zne_T (pc1 := 42) rfl rfl (show r2.toInt ≠ 0 from h3) ?_
      refine w_mv (pc1 := 43) (st1 := [.int 0]) rfl rfl rfl ?_
      refine w_mv (pc1 := 44) (lv1 := [(2, .int 0), (1, .int r2), (0, .ref 33)]) (st1 := []) rfl rfl rfl ?_
      refine w_wk (l1 := [(0, .ref 33), (1, .int r2), (2, .int 0)]) rfl ⟨rfl, rfl, rfl, trivial⟩ ?_
      exact hh A B d dc ds P hP
set_option maxRecDepth 20000 in
set_option maxHeartbeats 4000000 in
theorem r_114_44 {p1 : Int32} {p2 : Int32} {v : Nat → Int32} {a : Nat → Nat → Int32} {K : Int32 → (Nat → Int32) → (Nat → Nat → Int32) → Prop} (hh : (((v 7).toInt ≤ p2.toInt → 0 ≤ (v 8).toInt ∧ (v 8).toInt < 12 ∧ ((p1.toInt = 0 → ((p1.toInt ≠ 0 → K (v 8 + 1) (va_up (va_up (va_up v 7 0) 11 1) 8 (v 8 + 1)) (va_up a 2 (upd (a 2) (v 8).toNatClampNeg (v 7)))) ∧ (p1.toInt = 0 → K 0 (va_up (va_up v 7 0) 11 1) (va_up a 2 (upd (a 2) (v 8).toNatClampNeg (v 7)))))) ∧ (p1.toInt ≠ 0 → ((p1.toInt ≠ 0 → K (v 8 + 1) (va_up (va_up (va_up v 7 0) 11 0) 8 (v 8 + 1)) (va_up a 2 (upd (a 2) (v 8).toNatClampNeg (v 7)))) ∧ (p1.toInt = 0 → K 0 (va_up (va_up v 7 0) 11 0) (va_up a 2 (upd (a 2) (v 8).toNatClampNeg (v 7)))))))) ∧ (p2.toInt < (v 7).toInt → 0 ≤ p2.toInt ∧ p2.toInt < 48 ∧ 0 ≤ ((v 8 * 48) + p2).toInt ∧ ((v 8 * 48) + p2).toInt < 624 ∧ mT 5 sM_114 44 [(0, .ref 33), (1, .int p1), (2, .int (p2 + 1))] [] v (va_up a 1 (upd (a 1) ((v 8 * 48) + p2).toNatClampNeg ((a 0) p2.toNatClampNeg))) K))) : mT 5 sM_114 44 [(0, .ref 33), (1, .int p1), (2, .int p2)] [] v a K := by
  intro A B d dc ds P hP
  refine w_mv (pc1 := 45) (st1 := [.int p2]) rfl rfl rfl ?_
  refine w_mv (pc1 := 46) (st1 := [.ref 33, .int p2]) rfl rfl rfl ?_
  refine w_mv (pc1 := 49) (st1 := [.int (v 7), .int p2]) rfl rfl rfl ?_
  by_cases h1 : (v 7).toInt ≤ p2.toInt
  ·
    replace hh := hh.1 h1
    refine w_ige_T (pc1 := 78) rfl rfl (show (v 7).toInt ≤ p2.toInt from h1) ?_
    refine w_mv (pc1 := 79) (st1 := [.ref 33]) rfl rfl rfl ?_
    refine w_mv (pc1 := 82) (st1 := [.ref 36]) rfl rfl rfl ?_
    refine w_mv (pc1 := 83) (st1 := [.ref 33, .ref 36]) rfl rfl rfl ?_
    refine w_mv (pc1 := 86) (st1 := [.int (v 8), .ref 36]) rfl rfl rfl ?_
    refine w_mv (pc1 := 87) (st1 := [.ref 33, .int (v 8), .ref 36]) rfl rfl rfl ?_
    refine w_mv (pc1 := 90) (st1 := [.int (v 7), .int (v 8), .ref 36]) rfl rfl rfl ?_
    obtain ⟨o2a, o2b, hh⟩ := hh
    refine w_ast (x := 36) (t := 0) (n := 12) (f := (a 2)) (ty := .int) (nw := fun x => x) (pc1 := 91) (hs1 := mH A B v (va_up a 2 (upd (a 2) (v 8).toNatClampNeg (v 7)))) rfl rfl rfl rfl rfl rfl o2a o2b rfl mst_2 ?_
    refine w_mv (pc1 := 92) (st1 := [.ref 33]) rfl rfl rfl ?_
    refine w_mv (pc1 := 93) (st1 := [.int 0, .ref 33]) rfl rfl rfl ?_
    refine w_st (pc1 := 96) (st1 := []) (hs1 := mH A B (va_up v 7 0) (va_up a 2 (upd (a 2) (v 8).toNatClampNeg (v 7)))) (dc1 := 0) (ds1 := 0) (dc2 := dc) (ds2 := ds) rfl rfl rfl rfl rfl ?_
    refine w_mv (pc1 := 97) (st1 := [.ref 33]) rfl rfl rfl ?_
    refine w_mv (pc1 := 98) (st1 := [.int p1, .ref 33]) rfl rfl rfl ?_
    refine w_call (M' := sM_112) (vals := [.ref 33, .int p1]) (rest := []) (lv' := [(0, .ref 33), (1, .int p1)]) rfl rfl rfl rfl rfl rfl rfl rfl rfl rfl ?_
    refine w_mv (pc1 := 1) (st1 := [.ref 33]) rfl rfl rfl ?_
    refine w_mv (pc1 := 2) (st1 := [.int p1, .ref 33]) rfl rfl rfl ?_
    by_cases h3 : p1.toInt = 0
    ·
      replace hh := hh.1 h3
      refine w_zeq_T (pc1 := 9) rfl rfl (show p1.toInt = 0 from h3) ?_
      refine w_mv (pc1 := 10) (st1 := [.int 1, .ref 33]) rfl rfl rfl ?_
      refine w_st (pc1 := 13) (st1 := []) (hs1 := mH A B (va_up (va_up v 7 0) 11 1) (va_up a 2 (upd (a 2) (v 8).toNatClampNeg (v 7)))) (dc1 := 0) (ds1 := 0) (dc2 := dc) (ds2 := ds) rfl rfl rfl rfl rfl ?_
      refine w_mv (pc1 := 14) (st1 := [.int p1]) rfl rfl rfl ?_
      by_cases h4 : p1.toInt = 0
      ·
        replace hh := hh.2 h4
        refine w_zne_F (pc1 := 17) rfl (by decide) rfl (show p1.toInt = 0 from h4) ?_
        refine w_mv (pc1 := 18) (st1 := [.int 1]) rfl rfl rfl ?_
        refine w_mv (pc1 := 22) (st1 := [.int 1]) rfl rfl rfl ?_
        refine w_iret (pc1 := 101) rfl rfl rfl rfl ?_
        refine w_mv (pc1 := 104) (st1 := []) rfl rfl rfl ?_
        refine w_mv (pc1 := 105) (st1 := [.int 0]) rfl rfl rfl ?_
        exact sx_wp.stop rfl rfl rfl (hP 0 _ _ hh)
      ·
        replace hh := hh.1 h4
        refine w_zne_T (pc1 := 21) rfl rfl (show p1.toInt ≠ 0 from h4) ?_
        refine w_mv (pc1 := 22) (st1 := [.int 0]) rfl rfl rfl ?_
        refine w_iret (pc1 := 101) rfl rfl rfl rfl ?_
        refine w_mv (pc1 := 106) (st1 := []) rfl rfl rfl ?_
        refine w_mv (pc1 := 107) (st1 := [.ref 33]) rfl rfl rfl ?_
        refine w_mv (pc1 := 108) (st1 := [.ref 33, .ref 33]) rfl rfl rfl ?_
        refine w_mv (pc1 := 111) (st1 := [.int (v 8), .ref 33]) rfl rfl rfl ?_
        refine w_mv (pc1 := 112) (st1 := [.int 1, .int (v 8), .ref 33]) rfl rfl rfl ?_
        refine w_mv (pc1 := 113) (st1 := [.int (v 8 + 1), .ref 33]) rfl rfl rfl ?_
        refine w_st (pc1 := 116) (st1 := []) (hs1 := mH A B (va_up (va_up (va_up v 7 0) 11 1) 8 (v 8 + 1)) (va_up a 2 (upd (a 2) (v 8).toNatClampNeg (v 7)))) (dc1 := 0) (ds1 := 0) (dc2 := dc) (ds2 := ds) rfl rfl rfl rfl rfl ?_
        refine w_mv (pc1 := 117) (st1 := [.ref 33]) rfl rfl rfl ?_
        refine w_mv (pc1 := 120) (st1 := [.int (v 8 + 1)]) rfl rfl rfl ?_
        exact sx_wp.stop rfl rfl rfl (hP (v 8 + 1) _ _ hh)
    ·
      replace hh := hh.2 h3
      refine w_zeq_F (pc1 := 5) rfl (by decide) rfl (show p1.toInt ≠ 0 from h3) ?_
      refine w_mv (pc1 := 6) (st1 := [.int 0, .ref 33]) rfl rfl rfl ?_
      refine w_mv (pc1 := 10) (st1 := [.int 0, .ref 33]) rfl rfl rfl ?_
      refine w_st (pc1 := 13) (st1 := []) (hs1 := mH A B (va_up (va_up v 7 0) 11 0) (va_up a 2 (upd (a 2) (v 8).toNatClampNeg (v 7)))) (dc1 := 0) (ds1 := 0) (dc2 := dc) (ds2 := ds) rfl rfl rfl rfl rfl ?_
      refine w_mv (pc1 := 14) (st1 := [.int p1]) rfl rfl rfl ?_
      by_cases h5 : p1.toInt = 0
      ·
        replace hh := hh.2 h5
        refine w_zne_F (pc1 := 17) rfl (by decide) rfl (show p1.toInt = 0 from h5) ?_
        refine w_mv (pc1 := 18) (st1 := [.int 1]) rfl rfl rfl ?_
        refine w_mv (pc1 := 22) (st1 := [.int 1]) rfl rfl rfl ?_
        refine w_iret (pc1 := 101) rfl rfl rfl rfl ?_
        refine w_mv (pc1 := 104) (st1 := []) rfl rfl rfl ?_
        refine w_mv (pc1 := 105) (st1 := [.int 0]) rfl rfl rfl ?_
        exact sx_wp.stop rfl rfl rfl (hP 0 _ _ hh)
      ·
        replace hh := hh.1 h5
        refine w_zne_T (pc1 := 21) rfl rfl (show p1.toInt ≠ 0 from h5) ?_
        refine w_mv (pc1 := 22) (st1 := [.int 0]) rfl rfl rfl ?_
        refine w_iret (pc1 := 101) rfl rfl rfl rfl ?_
        refine w_mv (pc1 := 106) (st1 := []) rfl rfl rfl ?_
        refine w_mv (pc1 := 107) (st1 := [.ref 33]) rfl rfl rfl ?_
        refine w_mv (pc1 := 108) (st1 := [.ref 33, .ref 33]) rfl rfl rfl ?_
        refine w_mv (pc1 := 111) (st1 := [.int (v 8), .ref 33]) rfl rfl rfl ?_
        refine w_mv (pc1 := 112) (st1 := [.int 1, .int (v 8), .ref 33]) rfl rfl rfl ?_
        refine w_mv (pc1 := 113) (st1 := [.int (v 8 + 1), .ref 33]) rfl rfl rfl ?_
        refine w_st (pc1 := 116) (st1 := []) (hs1 := mH A B (va_up (va_up (va_up v 7 0) 11 0) 8 (v 8 + 1)) (va_up a 2 (upd (a 2) (v 8).toNatClampNeg (v 7)))) (dc1 := 0) (ds1 := 0) (dc2 := dc) (ds2 := ds) rfl rfl rfl rfl rfl ?_
        refine w_mv (pc1 := 117) (st1 := [.ref 33]) rfl rfl rfl ?_
        refine w_mv (pc1 := 120) (st1 := [.int (v 8 + 1)]) rfl rfl rfl ?_
        exact sx_wp.stop rfl rfl rfl (hP (v 8 + 1) _ _ hh)
  ·
    replace hh := hh.2 (Int.not_le.mp h1)
    refine w_ige_F (pc1 := 52) rfl (by decide) rfl (show p2.toInt < (v 7).toInt from (Int.not_le.mp h1)) ?_
    refine w_mv (pc1 := 53) (st1 := [.ref 33]) rfl rfl rfl ?_
    refine w_mv (pc1 := 56) (st1 := [.ref 35]) rfl rfl rfl ?_
    refine w_mv (pc1 := 57) (st1 := [.ref 33, .ref 35]) rfl rfl rfl ?_
    refine w_mv (pc1 := 60) (st1 := [.int (v 8), .ref 35]) rfl rfl rfl ?_
    refine w_mv (pc1 := 62) (st1 := [.int 48, .int (v 8), .ref 35]) rfl rfl rfl ?_
    refine w_mv (pc1 := 63) (st1 := [.int (v 8 * 48), .ref 35]) rfl rfl rfl ?_
    refine w_mv (pc1 := 64) (st1 := [.int p2, .int (v 8 * 48), .ref 35]) rfl rfl rfl ?_
    refine w_mv (pc1 := 65) (st1 := [.int ((v 8 * 48) + p2), .ref 35]) rfl rfl rfl ?_
    refine w_mv (pc1 := 66) (st1 := [.ref 33, .int ((v 8 * 48) + p2), .ref 35]) rfl rfl rfl ?_
    refine w_mv (pc1 := 69) (st1 := [.ref 34, .int ((v 8 * 48) + p2), .ref 35]) rfl rfl rfl ?_
    refine w_mv (pc1 := 70) (st1 := [.int p2, .ref 34, .int ((v 8 * 48) + p2), .ref 35]) rfl rfl rfl ?_
    obtain ⟨o6a, o6b, hh⟩ := hh
    refine w_ald (x := 34) (t := 0) (A := (48, .inl (a 0))) (v := .int ((a 0) p2.toNatClampNeg)) (pc1 := 71) rfl rfl rfl rfl rfl o6a o6b rfl rfl ?_
    obtain ⟨o7a, o7b, hh⟩ := hh
    refine w_ast (x := 35) (t := 0) (n := 624) (f := (a 1)) (ty := .int) (nw := fun x => x) (pc1 := 72) (hs1 := mH A B v (va_up a 1 (upd (a 1) ((v 8 * 48) + p2).toNatClampNeg ((a 0) p2.toNatClampNeg)))) rfl rfl rfl rfl rfl rfl o7a o7b rfl mst_1 ?_
    refine w_mv (pc1 := 75) (lv1 := [(2, .int (p2 + 1)), (0, .ref 33), (1, .int p1)]) (st1 := []) rfl rfl rfl ?_
    refine w_mv (pc1 := 44) (st1 := []) rfl rfl rfl ?_
    refine w_wk (l1 := [(0, .ref 33), (1, .int p1), (2, .int (p2 + 1))]) rfl ⟨rfl, rfl, rfl, trivial⟩ ?_
    exact hh A B d dc ds P hP
set_option maxRecDepth 20000 in
set_option maxHeartbeats 4000000 in
theorem r_115_0  {v : Nat → Int32} {a : Nat → Nat → Int32} {K : Int32 → (Nat → Int32) → (Nat → Nat → Int32) → Prop} (hh : mT 2 sM_116 0 [(0, .ref 33), (1, .int 1)] [] v a (fun r1 v1 a1 => ((r1.toInt ≠ 0 → 0 ≤ (v1 10).toInt ∧ (v1 7).toInt ≤ 48 ∧ (((m_lk v1 a1).toInt = 58 → mT 4 sM_115 19 [(0, .ref 33)] [] (va_up v1 10 (v1 10 + 1)) a1 K) ∧ ((m_lk v1 a1).toInt ≠ 58 → mT 4 sM_115 77 [(0, .ref 33)] [] v1 a1 K))) ∧ (r1.toInt = 0 → K 0 v1 a1)))) : mT 4 sM_115 0 [(0, .ref 33)] [] v a K := by
  intro A B d dc ds P hP
  refine w_mv (pc1 := 1) (st1 := [.ref 33]) rfl rfl rfl ?_
  refine w_mv (pc1 := 2) (st1 := [.int 1, .ref 33]) rfl rfl rfl ?_
  refine w_call (M' := sM_116) (vals := [.ref 33, .int 1]) (rest := []) (lv' := [(0, .ref 33), (1, .int 1)]) rfl rfl rfl rfl rfl rfl rfl rfl rfl rfl ?_
  refine hh A B _ dc ds _ (fun r1 v1 a1 hh => ?_)
  show s_kont _ _ _ _ _ _ _ (.inl (some (.int r1))) (mH A B v1 a1) dc ds
  refine w_ki (pc1 := 5) rfl ?_
  by_cases h2 : r1.toInt = 0
  ·
    replace hh := hh.2 h2
    refine w_zne_F (pc1 := 8) rfl (by decide) rfl (show r1.toInt = 0 from h2) ?_
    refine w_mv (pc1 := 9) (st1 := [.int 0]) rfl rfl rfl ?_
    exact sx_wp.stop rfl rfl rfl (hP 0 _ _ hh)
  ·
    replace hh := hh.1 h2
    refine w_zne_T (pc1 := 10) rfl rfl (show r1.toInt ≠ 0 from h2) ?_
    refine w_mv (pc1 := 11) (st1 := [.ref 33]) rfl rfl rfl ?_
    refine w_mv (pc1 := 13) (st1 := [.int 58, .ref 33]) rfl rfl rfl ?_
    refine w_call (M' := sM_118) (vals := [.ref 33, .int 58]) (rest := []) (lv' := [(0, .ref 33), (1, .int 58)]) rfl rfl rfl rfl rfl rfl rfl rfl rfl rfl ?_
    obtain ⟨o3a, o3b, hh⟩ := hh
    refine m_passes o3a o3b (fun h4a => ?_) (fun h4b => ?_)
    ·
      replace hh := hh.1 h4a
      show s_kont _ _ _ _ _ _ _ _ (mH A B (va_up v1 10 (v1 10 + 1)) a1) _ _
      refine w_ki (pc1 := 16) rfl ?_
      refine w_mv (pc1 := 19) (st1 := []) rfl rfl rfl ?_
      refine w_wk (l1 := [(0, .ref 33)]) rfl ⟨rfl, trivial⟩ ?_
      exact hh A B d dc ds P hP
    ·
      replace hh := hh.2 h4b
      refine w_ki (pc1 := 16) rfl ?_
      refine w_mv (pc1 := 77) (st1 := []) rfl rfl rfl ?_
      refine w_wk (l1 := [(0, .ref 33)]) rfl ⟨rfl, trivial⟩ ?_
      exact hh A B d dc ds P hP
set_option maxRecDepth 20000 in
set_option maxHeartbeats 4000000 in
theorem r_115_19  {v : Nat → Int32} {a : Nat → Nat → Int32} {K : Int32 → (Nat → Int32) → (Nat → Nat → Int32) → Prop} (hh : mT 2 sM_116 0 [(0, .ref 33), (1, .int 0)] [] v a (fun r1 v1 a1 => ((r1.toInt ≠ 0 → 0 ≤ (v1 10).toInt ∧ (v1 7).toInt ≤ 48 ∧ (((m_lk v1 a1).toInt = 60 → mT 4 sM_115 58 [(0, .ref 33)] [] (va_up v1 10 (v1 10 + 1)) a1 K) ∧ ((m_lk v1 a1).toInt ≠ 60 → 0 ≤ (v1 10).toInt ∧ (v1 7).toInt ≤ 48 ∧ (((m_lk v1 a1).toInt = 61 → mT 4 sM_115 58 [(0, .ref 33)] [] (va_up v1 10 (v1 10 + 1)) a1 K) ∧ ((m_lk v1 a1).toInt ≠ 61 → 0 ≤ (v1 10).toInt ∧ (v1 7).toInt ≤ 48 ∧ (((m_lk v1 a1).toInt = 126 → mT 4 sM_115 58 [(0, .ref 33)] [] (va_up v1 10 (v1 10 + 1)) a1 K) ∧ ((m_lk v1 a1).toInt ≠ 126 → K 0 v1 a1))))))) ∧ (r1.toInt = 0 → K 0 v1 a1)))) : mT 4 sM_115 19 [(0, .ref 33)] [] v a K := by
  intro A B d dc ds P hP
  refine w_mv (pc1 := 20) (st1 := [.ref 33]) rfl rfl rfl ?_
  refine w_mv (pc1 := 21) (st1 := [.int 0, .ref 33]) rfl rfl rfl ?_
  refine w_call (M' := sM_116) (vals := [.ref 33, .int 0]) (rest := []) (lv' := [(0, .ref 33), (1, .int 0)]) rfl rfl rfl rfl rfl rfl rfl rfl rfl rfl ?_
  refine hh A B _ dc ds _ (fun r1 v1 a1 hh => ?_)
  show s_kont _ _ _ _ _ _ _ (.inl (some (.int r1))) (mH A B v1 a1) dc ds
  refine w_ki (pc1 := 24) rfl ?_
  by_cases h2 : r1.toInt = 0
  ·
    replace hh := hh.2 h2
    refine w_zne_F (pc1 := 27) rfl (by decide) rfl (show r1.toInt = 0 from h2) ?_
    refine w_mv (pc1 := 28) (st1 := [.int 0]) rfl rfl rfl ?_
    exact sx_wp.stop rfl rfl rfl (hP 0 _ _ hh)
  ·
    replace hh := hh.1 h2
    refine w_zne_T (pc1 := 29) rfl rfl (show r1.toInt ≠ 0 from h2) ?_
    refine w_mv (pc1 := 30) (st1 := [.ref 33]) rfl rfl rfl ?_
    refine w_mv (pc1 := 32) (st1 := [.int 60, .ref 33]) rfl rfl rfl ?_
    refine w_call (M' := sM_118) (vals := [.ref 33, .int 60]) (rest := []) (lv' := [(0, .ref 33), (1, .int 60)]) rfl rfl rfl rfl rfl rfl rfl rfl rfl rfl ?_
    obtain ⟨o3a, o3b, hh⟩ := hh
    refine m_passes o3a o3b (fun h4a => ?_) (fun h4b => ?_)
    ·
      replace hh := hh.1 h4a
      show s_kont _ _ _ _ _ _ _ _ (mH A B (va_up v1 10 (v1 10 + 1)) a1) _ _
      refine w_ki (pc1 := 35) rfl ?_
      refine w_mv (pc1 := 58) (st1 := []) rfl rfl rfl ?_
      refine w_wk (l1 := [(0, .ref 33)]) rfl ⟨rfl, trivial⟩ ?_
      exact hh A B d dc ds P hP
    ·
      replace hh := hh.2 h4b
      refine w_ki (pc1 := 35) rfl ?_
      refine w_mv (pc1 := 38) (st1 := []) rfl rfl rfl ?_
      refine w_mv (pc1 := 39) (st1 := [.ref 33]) rfl rfl rfl ?_
      refine w_mv (pc1 := 41) (st1 := [.int 61, .ref 33]) rfl rfl rfl ?_
      refine w_call (M' := sM_118) (vals := [.ref 33, .int 61]) (rest := []) (lv' := [(0, .ref 33), (1, .int 61)]) rfl rfl rfl rfl rfl rfl rfl rfl rfl rfl ?_
      obtain ⟨o5a, o5b, hh⟩ := hh
      refine m_passes o5a o5b (fun h6a => ?_) (fun h6b => ?_)
      ·
        replace hh := hh.1 h6a
        show s_kont _ _ _ _ _ _ _ _ (mH A B (va_up v1 10 (v1 10 + 1)) a1) _ _
        refine w_ki (pc1 := 44) rfl ?_
        refine w_mv (pc1 := 58) (st1 := []) rfl rfl rfl ?_
        refine w_wk (l1 := [(0, .ref 33)]) rfl ⟨rfl, trivial⟩ ?_
        exact hh A B d dc ds P hP
      ·
        replace hh := hh.2 h6b
        refine w_ki (pc1 := 44) rfl ?_
        refine w_mv (pc1 := 47) (st1 := []) rfl rfl rfl ?_
        refine w_mv (pc1 := 48) (st1 := [.ref 33]) rfl rfl rfl ?_
        refine w_mv (pc1 := 50) (st1 := [.int 126, .ref 33]) rfl rfl rfl ?_
        refine w_call (M' := sM_118) (vals := [.ref 33, .int 126]) (rest := []) (lv' := [(0, .ref 33), (1, .int 126)]) rfl rfl rfl rfl rfl rfl rfl rfl rfl rfl ?_
        obtain ⟨o7a, o7b, hh⟩ := hh
        refine m_passes o7a o7b (fun h8a => ?_) (fun h8b => ?_)
        ·
          replace hh := hh.1 h8a
          show s_kont _ _ _ _ _ _ _ _ (mH A B (va_up v1 10 (v1 10 + 1)) a1) _ _
          refine w_ki (pc1 := 53) rfl ?_
          refine w_mv (pc1 := 58) (st1 := []) rfl rfl rfl ?_
          refine w_wk (l1 := [(0, .ref 33)]) rfl ⟨rfl, trivial⟩ ?_
          exact hh A B d dc ds P hP
        ·
          replace hh := hh.2 h8b
          refine w_ki (pc1 := 53) rfl ?_
          refine w_mv (pc1 := 56) (st1 := []) rfl rfl rfl ?_
          refine w_mv (pc1 := 57) (st1 := [.int 0]) rfl rfl rfl ?_
          exact sx_wp.stop rfl rfl rfl (hP 0 _ _ hh)
set_option maxRecDepth 20000 in
set_option maxHeartbeats 4000000 in
theorem r_115_58  {v : Nat → Int32} {a : Nat → Nat → Int32} {K : Int32 → (Nat → Int32) → (Nat → Nat → Int32) → Prop} (hh : mT 2 sM_116 0 [(0, .ref 33), (1, .int 0)] [] v a (fun r1 v1 a1 => ((r1.toInt ≠ 0 → 0 ≤ (v1 10).toInt ∧ (v1 7).toInt ≤ 48 ∧ (((m_lk v1 a1).toInt = 44 → mT 4 sM_115 19 [(0, .ref 33)] [] (va_up v1 10 (v1 10 + 1)) a1 K) ∧ ((m_lk v1 a1).toInt ≠ 44 → mT 4 sM_115 77 [(0, .ref 33)] [] v1 a1 K))) ∧ (r1.toInt = 0 → K 0 v1 a1)))) : mT 4 sM_115 58 [(0, .ref 33)] [] v a K := by
  intro A B d dc ds P hP
  refine w_mv (pc1 := 59) (st1 := [.ref 33]) rfl rfl rfl ?_
  refine w_mv (pc1 := 60) (st1 := [.int 0, .ref 33]) rfl rfl rfl ?_
  refine w_call (M' := sM_116) (vals := [.ref 33, .int 0]) (rest := []) (lv' := [(0, .ref 33), (1, .int 0)]) rfl rfl rfl rfl rfl rfl rfl rfl rfl rfl ?_
  refine hh A B _ dc ds _ (fun r1 v1 a1 hh => ?_)
  show s_kont _ _ _ _ _ _ _ (.inl (some (.int r1))) (mH A B v1 a1) dc ds
  refine w_ki (pc1 := 63) rfl ?_
  by_cases h2 : r1.toInt = 0
  ·
    replace hh := hh.2 h2
    refine w_zne_F (pc1 := 66) rfl (by decide) rfl (show r1.toInt = 0 from h2) ?_
    refine w_mv (pc1 := 67) (st1 := [.int 0]) rfl rfl rfl ?_
    exact sx_wp.stop rfl rfl rfl (hP 0 _ _ hh)
  ·
    replace hh := hh.1 h2
    refine w_zne_T (pc1 := 68) rfl rfl (show r1.toInt ≠ 0 from h2) ?_
    refine w_mv (pc1 := 69) (st1 := [.ref 33]) rfl rfl rfl ?_
    refine w_mv (pc1 := 71) (st1 := [.int 44, .ref 33]) rfl rfl rfl ?_
    refine w_call (M' := sM_118) (vals := [.ref 33, .int 44]) (rest := []) (lv' := [(0, .ref 33), (1, .int 44)]) rfl rfl rfl rfl rfl rfl rfl rfl rfl rfl ?_
    obtain ⟨o3a, o3b, hh⟩ := hh
    refine m_passes o3a o3b (fun h4a => ?_) (fun h4b => ?_)
    ·
      replace hh := hh.1 h4a
      show s_kont _ _ _ _ _ _ _ _ (mH A B (va_up v1 10 (v1 10 + 1)) a1) _ _
      refine w_ki (pc1 := 74) rfl ?_
      refine w_mv (pc1 := 19) (st1 := []) rfl rfl rfl ?_
      refine w_wk (l1 := [(0, .ref 33)]) rfl ⟨rfl, trivial⟩ ?_
      exact hh A B d dc ds P hP
    ·
      replace hh := hh.2 h4b
      refine w_ki (pc1 := 74) rfl ?_
      refine w_mv (pc1 := 77) (st1 := []) rfl rfl rfl ?_
      refine w_wk (l1 := [(0, .ref 33)]) rfl ⟨rfl, trivial⟩ ?_
      exact hh A B d dc ds P hP
set_option maxRecDepth 20000 in
set_option maxHeartbeats 4000000 in
theorem r_115_77  {v : Nat → Int32} {a : Nat → Nat → Int32} {K : Int32 → (Nat → Int32) → (Nat → Nat → Int32) → Prop} (hh : 0 ≤ (v 10).toInt ∧ (v 7).toInt ≤ 48 ∧ (((m_lk v a).toInt = 124 → mT 3 sM_119 0 [(0, .ref 33)] [] (va_up v 10 (v 10 + 1)) a (fun r3 v3 a3 => (r3 = 0 ∨ r3 = 1) ∧ K r3 v3 a3)) ∧ ((m_lk v a).toInt ≠ 124 → (((v 10).toInt ≠ (v 7).toInt → K 0 v a) ∧ ((v 10).toInt = (v 7).toInt → K 1 v a))))) : mT 4 sM_115 77 [(0, .ref 33)] [] v a K := by
  intro A B d dc ds P hP
  refine w_mv (pc1 := 78) (st1 := [.ref 33]) rfl rfl rfl ?_
  refine w_mv (pc1 := 80) (st1 := [.int 124, .ref 33]) rfl rfl rfl ?_
  refine w_call (M' := sM_118) (vals := [.ref 33, .int 124]) (rest := []) (lv' := [(0, .ref 33), (1, .int 124)]) rfl rfl rfl rfl rfl rfl rfl rfl rfl rfl ?_
  obtain ⟨o1a, o1b, hh⟩ := hh
  refine m_passes o1a o1b (fun h2a => ?_) (fun h2b => ?_)
  ·
    replace hh := hh.1 h2a
    show s_kont _ _ _ _ _ _ _ _ (mH A B (va_up v 10 (v 10 + 1)) a) _ _
    refine w_ki (pc1 := 83) rfl ?_
    refine w_mv (pc1 := 86) (st1 := []) rfl rfl rfl ?_
    refine w_mv (pc1 := 87) (st1 := [.ref 33]) rfl rfl rfl ?_
    refine w_call (M' := sM_119) (vals := [.ref 33]) (rest := []) (lv' := [(0, .ref 33)]) rfl rfl rfl rfl rfl rfl rfl rfl rfl rfl ?_
    refine hh A B _ dc ds _ (fun r3 v3 a3 hh => ?_)
    show s_kont _ _ _ _ _ _ _ (.inl (some (.int r3))) (mH A B v3 a3) dc ds
    refine w_ki (pc1 := 90) rfl ?_
    refine w_mv (pc1 := 109) (st1 := [.int r3]) rfl rfl rfl ?_
    obtain ⟨o4a, hh⟩ := hh
    exact w_bend rfl rfl o4a (hP _ _ _ hh)
  ·
    replace hh := hh.2 h2b
    refine w_ki (pc1 := 83) rfl ?_
    refine w_mv (pc1 := 93) (st1 := []) rfl rfl rfl ?_
    refine w_mv (pc1 := 94) (st1 := [.ref 33]) rfl rfl rfl ?_
    refine w_mv (pc1 := 97) (st1 := [.int (v 10)]) rfl rfl rfl ?_
    refine w_mv (pc1 := 98) (st1 := [.ref 33, .int (v 10)]) rfl rfl rfl ?_
    refine w_mv (pc1 := 101) (st1 := [.int (v 7), .int (v 10)]) rfl rfl rfl ?_
    by_cases h5 : (v 10).toInt = (v 7).toInt
    ·
      replace hh := hh.2 h5
      refine w_ine_F (pc1 := 104) rfl (by decide) rfl (show (v 10).toInt = (v 7).toInt from h5) ?_
      refine w_mv (pc1 := 105) (st1 := [.int 1]) rfl rfl rfl ?_
      refine w_mv (pc1 := 109) (st1 := [.int 1]) rfl rfl rfl ?_
      exact sx_wp.stop rfl rfl rfl (hP 1 _ _ hh)
    ·
      replace hh := hh.1 h5
      refine w_ine_T (pc1 := 108) rfl rfl (show (v 10).toInt ≠ (v 7).toInt from h5) ?_
      refine w_mv (pc1 := 109) (st1 := [.int 0]) rfl rfl rfl ?_
      exact sx_wp.stop rfl rfl rfl (hP 0 _ _ hh)
set_option maxRecDepth 20000 in
set_option maxHeartbeats 4000000 in
theorem r_119_0  {v : Nat → Int32} {a : Nat → Nat → Int32} {K : Int32 → (Nat → Int32) → (Nat → Nat → Int32) → Prop} (hh : 0 ≤ (v 10).toInt ∧ (v 7).toInt ≤ 48 ∧ ((97 ≤ (m_lk v a).toInt → (m_lk v a).toInt ≤ 122 → 0 ≤ (v 10).toInt ∧ (v 7).toInt ≤ 48 ∧ ((65 ≤ (m_lk v a).toInt → (m_lk v a).toInt ≤ 90 → mT 2 sM_116 0 [(0, .ref 33), (1, .int 0)] [] v a (fun r5 v5 a5 => ((r5.toInt ≠ 0 → mT 3 sM_119 34 [(0, .ref 33), (1, .int 1), (2, .int 1)] [] v5 a5 K) ∧ (r5.toInt = 0 → K 0 v5 a5)))) ∧ (((m_lk v a).toInt < 65 ∨ 90 < (m_lk v a).toInt) → mT 2 sM_116 0 [(0, .ref 33), (1, .int 0)] [] v a (fun r7 v7 a7 => ((r7.toInt ≠ 0 → mT 3 sM_119 34 [(0, .ref 33), (1, .int 1), (2, .int 0)] [] v7 a7 K) ∧ (r7.toInt = 0 → K 0 v7 a7)))))) ∧ (((m_lk v a).toInt < 97 ∨ 122 < (m_lk v a).toInt) → 0 ≤ (v 10).toInt ∧ (v 7).toInt ≤ 48 ∧ ((65 ≤ (m_lk v a).toInt → (m_lk v a).toInt ≤ 90 → mT 2 sM_116 0 [(0, .ref 33), (1, .int 0)] [] v a (fun r11 v11 a11 => ((r11.toInt ≠ 0 → mT 3 sM_119 34 [(0, .ref 33), (1, .int 0), (2, .int 1)] [] v11 a11 K) ∧ (r11.toInt = 0 → K 0 v11 a11)))) ∧ (((m_lk v a).toInt < 65 ∨ 90 < (m_lk v a).toInt) → mT 2 sM_116 0 [(0, .ref 33), (1, .int 0)] [] v a (fun r13 v13 a13 => ((r13.toInt ≠ 0 → mT 3 sM_119 34 [(0, .ref 33), (1, .int 0), (2, .int 0)] [] v13 a13 K) ∧ (r13.toInt = 0 → K 0 v13 a13)))))))) : mT 3 sM_119 0 [(0, .ref 33)] [] v a K := by
  intro A B d dc ds P hP
  refine w_mv (pc1 := 1) (st1 := [.ref 33]) rfl rfl rfl ?_
  refine w_call (M' := sM_117) (vals := [.ref 33]) (rest := []) (lv' := [(0, .ref 33)]) rfl rfl rfl rfl rfl rfl rfl rfl rfl rfl ?_
  obtain ⟨o1a, o1b, hh⟩ := hh
  refine m_look o1a o1b ?_
  refine w_ki (pc1 := 4) rfl ?_
  refine w_mv (pc1 := 6) (st1 := [.int 97, .int (m_lk v a)]) rfl rfl rfl ?_
  refine w_mv (pc1 := 8) (st1 := [.int 122, .int 97, .int (m_lk v a)]) rfl rfl rfl ?_
  refine w_call (M' := sM_111) (vals := [.int (m_lk v a), .int 97, .int 122]) (rest := []) (lv' := [(0, .int (m_lk v a)), (1, .int 97), (2, .int 122)]) rfl rfl rfl rfl rfl rfl rfl rfl rfl rfl ?_
  refine m_in (fun h2a h2b => ?_) (fun h2c => ?_)
  ·
    replace hh := hh.1 h2a h2b
    refine w_ki (pc1 := 11) rfl ?_
    refine w_mv (pc1 := 12) (lv1 := [(1, .int 1), (0, .ref 33)]) (st1 := []) rfl rfl rfl ?_
    refine w_mv (pc1 := 13) (st1 := [.ref 33]) rfl rfl rfl ?_
    refine w_call (M' := sM_117) (vals := [.ref 33]) (rest := []) (lv' := [(0, .ref 33)]) rfl rfl rfl rfl rfl rfl rfl rfl rfl rfl ?_
    obtain ⟨o3a, o3b, hh⟩ := hh
    refine m_look o3a o3b ?_
    refine w_ki (pc1 := 16) rfl ?_
    refine w_mv (pc1 := 18) (st1 := [.int 65, .int (m_lk v a)]) rfl rfl rfl ?_
    refine w_mv (pc1 := 20) (st1 := [.int 90, .int 65, .int (m_lk v a)]) rfl rfl rfl ?_
    refine w_call (M' := sM_111) (vals := [.int (m_lk v a), .int 65, .int 90]) (rest := []) (lv' := [(0, .int (m_lk v a)), (1, .int 65), (2, .int 90)]) rfl rfl rfl rfl rfl rfl rfl rfl rfl rfl ?_
    refine m_in (fun h4a h4b => ?_) (fun h4c => ?_)
    ·
      replace hh := hh.1 h4a h4b
      refine w_ki (pc1 := 23) rfl ?_
      refine w_mv (pc1 := 24) (lv1 := [(2, .int 1), (1, .int 1), (0, .ref 33)]) (st1 := []) rfl rfl rfl ?_
      refine w_mv (pc1 := 25) (st1 := [.ref 33]) rfl rfl rfl ?_
      refine w_mv (pc1 := 26) (st1 := [.int 0, .ref 33]) rfl rfl rfl ?_
      refine w_call (M' := sM_116) (vals := [.ref 33, .int 0]) (rest := []) (lv' := [(0, .ref 33), (1, .int 0)]) rfl rfl rfl rfl rfl rfl rfl rfl rfl rfl ?_
      refine hh A B _ dc ds _ (fun r5 v5 a5 hh => ?_)
      show s_kont _ _ _ _ _ _ _ (.inl (some (.int r5))) (mH A B v5 a5) dc ds
      refine w_ki (pc1 := 29) rfl ?_
      by_cases h6 : r5.toInt = 0
      ·
        replace hh := hh.2 h6
        refine w_zne_F (pc1 := 32) rfl (by decide) rfl (show r5.toInt = 0 from h6) ?_
        refine w_mv (pc1 := 33) (st1 := [.int 0]) rfl rfl rfl ?_
        exact sx_wp.stop rfl rfl rfl (hP 0 _ _ hh)
      ·
        replace hh := hh.1 h6
        refine w_zne_T (pc1 := 34) rfl rfl (show r5.toInt ≠ 0 from h6) ?_
        refine w_wk (l1 := [(0, .ref 33), (1, .int 1), (2, .int 1)]) rfl ⟨rfl, rfl, rfl, trivial⟩ ?_
        exact hh A B d dc ds P hP
    ·
      replace hh := hh.2 h4c
      refine w_ki (pc1 := 23) rfl ?_
      refine w_mv (pc1 := 24) (lv1 := [(2, .int 0), (1, .int 1), (0, .ref 33)]) (st1 := []) rfl rfl rfl ?_
      refine w_mv (pc1 := 25) (st1 := [.ref 33]) rfl rfl rfl ?_
      refine w_mv (pc1 := 26) (st1 := [.int 0, .ref 33]) rfl rfl rfl ?_
      refine w_call (M' := sM_116) (vals := [.ref 33, .int 0]) (rest := []) (lv' := [(0, .ref 33), (1, .int 0)]) rfl rfl rfl rfl rfl rfl rfl rfl rfl rfl ?_
      refine hh A B _ dc ds _ (fun r7 v7 a7 hh => ?_)
      show s_kont _ _ _ _ _ _ _ (.inl (some (.int r7))) (mH A B v7 a7) dc ds
      refine w_ki (pc1 := 29) rfl ?_
      by_cases h8 : r7.toInt = 0
      ·
        replace hh := hh.2 h8
        refine w_zne_F (pc1 := 32) rfl (by decide) rfl (show r7.toInt = 0 from h8) ?_
        refine w_mv (pc1 := 33) (st1 := [.int 0]) rfl rfl rfl ?_
        exact sx_wp.stop rfl rfl rfl (hP 0 _ _ hh)
      ·
        replace hh := hh.1 h8
        refine w_zne_T (pc1 := 34) rfl rfl (show r7.toInt ≠ 0 from h8) ?_
        refine w_wk (l1 := [(0, .ref 33), (1, .int 1), (2, .int 0)]) rfl ⟨rfl, rfl, rfl, trivial⟩ ?_
        exact hh A B d dc ds P hP
  ·
    replace hh := hh.2 h2c
    refine w_ki (pc1 := 11) rfl ?_
    refine w_mv (pc1 := 12) (lv1 := [(1, .int 0), (0, .ref 33)]) (st1 := []) rfl rfl rfl ?_
    refine w_mv (pc1 := 13) (st1 := [.ref 33]) rfl rfl rfl ?_
    refine w_call (M' := sM_117) (vals := [.ref 33]) (rest := []) (lv' := [(0, .ref 33)]) rfl rfl rfl rfl rfl rfl rfl rfl rfl rfl ?_
    obtain ⟨o9a, o9b, hh⟩ := hh
    refine m_look o9a o9b ?_
    refine w_ki (pc1 := 16) rfl ?_
    refine w_mv (pc1 := 18) (st1 := [.int 65, .int (m_lk v a)]) rfl rfl rfl ?_
    refine w_mv (pc1 := 20) (st1 := [.int 90, .int 65, .int (m_lk v a)]) rfl rfl rfl ?_
    refine w_call (M' := sM_111) (vals := [.int (m_lk v a), .int 65, .int 90]) (rest := []) (lv' := [(0, .int (m_lk v a)), (1, .int 65), (2, .int 90)]) rfl rfl rfl rfl rfl rfl rfl rfl rfl rfl ?_
    refine m_in (fun h10a h10b => ?_) (fun h10c => ?_)
    ·
      replace hh := hh.1 h10a h10b
      refine w_ki (pc1 := 23) rfl ?_
      refine w_mv (pc1 := 24) (lv1 := [(2, .int 1), (1, .int 0), (0, .ref 33)]) (st1 := []) rfl rfl rfl ?_
      refine w_mv (pc1 := 25) (st1 := [.ref 33]) rfl rfl rfl ?_
      refine w_mv (pc1 := 26) (st1 := [.int 0, .ref 33]) rfl rfl rfl ?_
      refine w_call (M' := sM_116) (vals := [.ref 33, .int 0]) (rest := []) (lv' := [(0, .ref 33), (1, .int 0)]) rfl rfl rfl rfl rfl rfl rfl rfl rfl rfl ?_
      refine hh A B _ dc ds _ (fun r11 v11 a11 hh => ?_)
      show s_kont _ _ _ _ _ _ _ (.inl (some (.int r11))) (mH A B v11 a11) dc ds
      refine w_ki (pc1 := 29) rfl ?_
      by_cases h12 : r11.toInt = 0
      ·
        replace hh := hh.2 h12
        refine w_zne_F (pc1 := 32) rfl (by decide) rfl (show r11.toInt = 0 from h12) ?_
        refine w_mv (pc1 := 33) (st1 := [.int 0]) rfl rfl rfl ?_
        exact sx_wp.stop rfl rfl rfl (hP 0 _ _ hh)
      ·
        replace hh := hh.1 h12
        refine w_zne_T (pc1 := 34) rfl rfl (show r11.toInt ≠ 0 from h12) ?_
        refine w_wk (l1 := [(0, .ref 33), (1, .int 0), (2, .int 1)]) rfl ⟨rfl, rfl, rfl, trivial⟩ ?_
        exact hh A B d dc ds P hP
    ·
      replace hh := hh.2 h10c
      refine w_ki (pc1 := 23) rfl ?_
      refine w_mv (pc1 := 24) (lv1 := [(2, .int 0), (1, .int 0), (0, .ref 33)]) (st1 := []) rfl rfl rfl ?_
      refine w_mv (pc1 := 25) (st1 := [.ref 33]) rfl rfl rfl ?_
      refine w_mv (pc1 := 26) (st1 := [.int 0, .ref 33]) rfl rfl rfl ?_
      refine w_call (M' := sM_116) (vals := [.ref 33, .int 0]) (rest := []) (lv' := [(0, .ref 33), (1, .int 0)]) rfl rfl rfl rfl rfl rfl rfl rfl rfl rfl ?_
      refine hh A B _ dc ds _ (fun r13 v13 a13 hh => ?_)
      show s_kont _ _ _ _ _ _ _ (.inl (some (.int r13))) (mH A B v13 a13) dc ds
      refine w_ki (pc1 := 29) rfl ?_
      by_cases h14 : r13.toInt = 0
      ·
        replace hh := hh.2 h14
        refine w_zne_F (pc1 := 32) rfl (by decide) rfl (show r13.toInt = 0 from h14) ?_
        refine w_mv (pc1 := 33) (st1 := [.int 0]) rfl rfl rfl ?_
        exact sx_wp.stop rfl rfl rfl (hP 0 _ _ hh)
      ·
        replace hh := hh.1 h14
        refine w_zne_T (pc1 := 34) rfl rfl (show r13.toInt ≠ 0 from h14) ?_
        refine w_wk (l1 := [(0, .ref 33), (1, .int 0), (2, .int 0)]) rfl ⟨rfl, rfl, rfl, trivial⟩ ?_
        exact hh A B d dc ds P hP
set_option maxRecDepth 20000 in
set_option maxHeartbeats 4000000 in
theorem r_119_34 {p1 : Int32} {p2 : Int32} {v : Nat → Int32} {a : Nat → Nat → Int32} {K : Int32 → (Nat → Int32) → (Nat → Nat → Int32) → Prop} (hh : ((p2.toInt = 0 → mT 3 sM_119 96 [(0, .ref 33), (1, .int p1)] [] v a K) ∧ (p2.toInt ≠ 0 → 0 ≤ (v 10).toInt ∧ (v 7).toInt ≤ 48 ∧ (((m_lk v a).toInt = 35 → mT 2 sM_116 0 [(0, .ref 33), (1, .int 0)] [] (va_up v 10 (v 10 + 1)) a (fun r4 v4 a4 => ((r4.toInt ≠ 0 → 0 ≤ (v4 10).toInt ∧ (v4 7).toInt ≤ 48 ∧ (((m_lk v4 a4).toInt = 43 → mT 3 sM_119 86 [(0, .ref 33)] [] (va_up v4 10 (v4 10 + 1)) a4 K) ∧ ((m_lk v4 a4).toInt ≠ 43 → 0 ≤ (v4 10).toInt ∧ (v4 7).toInt ≤ 48 ∧ (((m_lk v4 a4).toInt = 45 → mT 3 sM_119 86 [(0, .ref 33)] [] (va_up v4 10 (v4 10 + 1)) a4 K) ∧ ((m_lk v4 a4).toInt ≠ 45 → 0 ≤ (v4 10).toInt ∧ (v4 7).toInt ≤ 48 ∧ (((m_lk v4 a4).toInt = 42 → mT 3 sM_119 86 [(0, .ref 33)] [] (va_up v4 10 (v4 10 + 1)) a4 K) ∧ ((m_lk v4 a4).toInt ≠ 42 → K 0 v4 a4))))))) ∧ (r4.toInt = 0 → K 0 v4 a4)))) ∧ ((m_lk v a).toInt ≠ 35 → mT 3 sM_119 96 [(0, .ref 33), (1, .int p1)] [] v a K))))) : mT 3 sM_119 34 [(0, .ref 33), (1, .int p1), (2, .int p2)] [] v a K := by
  intro A B d dc ds P hP
  refine w_mv (pc1 := 35) (st1 := [.int p2]) rfl rfl rfl ?_
  by_cases h1 : p2.toInt = 0
  ·
    replace hh := hh.1 h1
    refine w_zeq_T (pc1 := 96) rfl rfl (show p2.toInt = 0 from h1) ?_
    refine w_wk (l1 := [(0, .ref 33), (1, .int p1)]) rfl ⟨rfl, rfl, trivial⟩ ?_
    exact hh A B d dc ds P hP
  ·
    replace hh := hh.2 h1
    refine w_zeq_F (pc1 := 38) rfl (by decide) rfl (show p2.toInt ≠ 0 from h1) ?_
    refine w_mv (pc1 := 39) (st1 := [.ref 33]) rfl rfl rfl ?_
    refine w_mv (pc1 := 41) (st1 := [.int 35, .ref 33]) rfl rfl rfl ?_
    refine w_call (M' := sM_118) (vals := [.ref 33, .int 35]) (rest := []) (lv' := [(0, .ref 33), (1, .int 35)]) rfl rfl rfl rfl rfl rfl rfl rfl rfl rfl ?_
    obtain ⟨o2a, o2b, hh⟩ := hh
    refine m_passes o2a o2b (fun h3a => ?_) (fun h3b => ?_)
    ·
      replace hh := hh.1 h3a
      show s_kont _ _ _ _ _ _ _ _ (mH A B (va_up v 10 (v 10 + 1)) a) _ _
      refine w_ki (pc1 := 44) rfl ?_
      refine w_mv (pc1 := 47) (st1 := []) rfl rfl rfl ?_
      refine w_mv (pc1 := 48) (st1 := [.ref 33]) rfl rfl rfl ?_
      refine w_mv (pc1 := 49) (st1 := [.int 0, .ref 33]) rfl rfl rfl ?_
      refine w_call (M' := sM_116) (vals := [.ref 33, .int 0]) (rest := []) (lv' := [(0, .ref 33), (1, .int 0)]) rfl rfl rfl rfl rfl rfl rfl rfl rfl rfl ?_
      refine hh A B _ dc ds _ (fun r4 v4 a4 hh => ?_)
      show s_kont _ _ _ _ _ _ _ (.inl (some (.int r4))) (mH A B v4 a4) dc ds
      refine w_ki (pc1 := 52) rfl ?_
      by_cases h5 : r4.toInt = 0
      ·
        replace hh := hh.2 h5
        refine w_zne_F (pc1 := 55) rfl (by decide) rfl (show r4.toInt = 0 from h5) ?_
        refine w_mv (pc1 := 56) (st1 := [.int 0]) rfl rfl rfl ?_
        exact sx_wp.stop rfl rfl rfl (hP 0 _ _ hh)
      ·
        replace hh := hh.1 h5
        refine w_zne_T (pc1 := 57) rfl rfl (show r4.toInt ≠ 0 from h5) ?_
        refine w_mv (pc1 := 58) (st1 := [.ref 33]) rfl rfl rfl ?_
        refine w_mv (pc1 := 60) (st1 := [.int 43, .ref 33]) rfl rfl rfl ?_
        refine w_call (M' := sM_118) (vals := [.ref 33, .int 43]) (rest := []) (lv' := [(0, .ref 33), (1, .int 43)]) rfl rfl rfl rfl rfl rfl rfl rfl rfl rfl ?_
        obtain ⟨o6a, o6b, hh⟩ := hh
        refine m_passes o6a o6b (fun h7a => ?_) (fun h7b => ?_)
        ·
          replace hh := hh.1 h7a
          show s_kont _ _ _ _ _ _ _ _ (mH A B (va_up v4 10 (v4 10 + 1)) a4) _ _
          refine w_ki (pc1 := 63) rfl ?_
          refine w_mv (pc1 := 86) (st1 := []) rfl rfl rfl ?_
          refine w_wk (l1 := [(0, .ref 33)]) rfl ⟨rfl, trivial⟩ ?_
          exact hh A B d dc ds P hP
        ·
          replace hh := hh.2 h7b
          refine w_ki (pc1 := 63) rfl ?_
          refine w_mv (pc1 := 66) (st1 := []) rfl rfl rfl ?_
          refine w_mv (pc1 := 67) (st1 := [.ref 33]) rfl rfl rfl ?_
          refine w_mv (pc1 := 69) (st1 := [.int 45, .ref 33]) rfl rfl rfl ?_
          refine w_call (M' := sM_118) (vals := [.ref 33, .int 45]) (rest := []) (lv' := [(0, .ref 33), (1, .int 45)]) rfl rfl rfl rfl rfl rfl rfl rfl rfl rfl ?_
          obtain ⟨o8a, o8b, hh⟩ := hh
          refine m_passes o8a o8b (fun h9a => ?_) (fun h9b => ?_)
          ·
            replace hh := hh.1 h9a
            show s_kont _ _ _ _ _ _ _ _ (mH A B (va_up v4 10 (v4 10 + 1)) a4) _ _
            refine w_ki (pc1 := 72) rfl ?_
            refine w_mv (pc1 := 86) (st1 := []) rfl rfl rfl ?_
            refine w_wk (l1 := [(0, .ref 33)]) rfl ⟨rfl, trivial⟩ ?_
            exact hh A B d dc ds P hP
          ·
            replace hh := hh.2 h9b
            refine w_ki (pc1 := 72) rfl ?_
            refine w_mv (pc1 := 75) (st1 := []) rfl rfl rfl ?_
            refine w_mv (pc1 := 76) (st1 := [.ref 33]) rfl rfl rfl ?_
            refine w_mv (pc1 := 78) (st1 := [.int 42, .ref 33]) rfl rfl rfl ?_
            refine w_call (M' := sM_118) (vals := [.ref 33, .int 42]) (rest := []) (lv' := [(0, .ref 33), (1, .int 42)]) rfl rfl rfl rfl rfl rfl rfl rfl rfl rfl ?_
            obtain ⟨o10a, o10b, hh⟩ := hh
            refine m_passes o10a o10b (fun h11a => ?_) (fun h11b => ?_)
            ·
              replace hh := hh.1 h11a
              show s_kont _ _ _ _ _ _ _ _ (mH A B (va_up v4 10 (v4 10 + 1)) a4) _ _
              refine w_ki (pc1 := 81) rfl ?_
              refine w_mv (pc1 := 86) (st1 := []) rfl rfl rfl ?_
              refine w_wk (l1 := [(0, .ref 33)]) rfl ⟨rfl, trivial⟩ ?_
              exact hh A B d dc ds P hP
            ·
              replace hh := hh.2 h11b
              refine w_ki (pc1 := 81) rfl ?_
              refine w_mv (pc1 := 84) (st1 := []) rfl rfl rfl ?_
              refine w_mv (pc1 := 85) (st1 := [.int 0]) rfl rfl rfl ?_
              exact sx_wp.stop rfl rfl rfl (hP 0 _ _ hh)
    ·
      replace hh := hh.2 h3b
      refine w_ki (pc1 := 44) rfl ?_
      refine w_mv (pc1 := 96) (st1 := []) rfl rfl rfl ?_
      refine w_wk (l1 := [(0, .ref 33), (1, .int p1)]) rfl ⟨rfl, rfl, trivial⟩ ?_
      exact hh A B d dc ds P hP
set_option maxRecDepth 20000 in
set_option maxHeartbeats 4000000 in
theorem r_119_86  {v : Nat → Int32} {a : Nat → Nat → Int32} {K : Int32 → (Nat → Int32) → (Nat → Nat → Int32) → Prop} (hh : mT 2 sM_116 0 [(0, .ref 33), (1, .int 0)] [] v a (fun r1 v1 a1 => ((r1.toInt ≠ 0 → mT 3 sM_119 156 [(0, .ref 33)] [] v1 a1 K) ∧ (r1.toInt = 0 → K 0 v1 a1)))) : mT 3 sM_119 86 [(0, .ref 33)] [] v a K := by
  intro A B d dc ds P hP
  refine w_mv (pc1 := 87) (st1 := [.ref 33]) rfl rfl rfl ?_
  refine w_mv (pc1 := 88) (st1 := [.int 0, .ref 33]) rfl rfl rfl ?_
  refine w_call (M' := sM_116) (vals := [.ref 33, .int 0]) (rest := []) (lv' := [(0, .ref 33), (1, .int 0)]) rfl rfl rfl rfl rfl rfl rfl rfl rfl rfl ?_
  refine hh A B _ dc ds _ (fun r1 v1 a1 hh => ?_)
  show s_kont _ _ _ _ _ _ _ (.inl (some (.int r1))) (mH A B v1 a1) dc ds
  refine w_ki (pc1 := 91) rfl ?_
  by_cases h2 : r1.toInt = 0
  ·
    replace hh := hh.2 h2
    refine w_zne_F (pc1 := 94) rfl (by decide) rfl (show r1.toInt = 0 from h2) ?_
    refine w_mv (pc1 := 95) (st1 := [.int 0]) rfl rfl rfl ?_
    exact sx_wp.stop rfl rfl rfl (hP 0 _ _ hh)
  ·
    replace hh := hh.1 h2
    refine w_zne_T (pc1 := 156) rfl rfl (show r1.toInt ≠ 0 from h2) ?_
    refine w_wk (l1 := [(0, .ref 33)]) rfl ⟨rfl, trivial⟩ ?_
    exact hh A B d dc ds P hP
set_option maxRecDepth 20000 in
set_option maxHeartbeats 4000000 in
theorem r_119_96 {p1 : Int32} {v : Nat → Int32} {a : Nat → Nat → Int32} {K : Int32 → (Nat → Int32) → (Nat → Nat → Int32) → Prop} (hh : 0 ≤ (v 10).toInt ∧ (v 7).toInt ≤ 48 ∧ (((m_lk v a).toInt = 61 → mT 2 sM_116 0 [(0, .ref 33), (1, .int 0)] [] (va_up v 10 (v 10 + 1)) a (fun r3 v3 a3 => ((r3.toInt ≠ 0 → mT 3 sM_119 156 [(0, .ref 33)] [] v3 a3 K) ∧ (r3.toInt = 0 → K 0 v3 a3)))) ∧ ((m_lk v a).toInt ≠ 61 → ((p1.toInt ≠ 0 → 0 ≤ (v 10).toInt ∧ (v 7).toInt ≤ 48 ∧ (((m_lk v a).toInt = 94 → 0 ≤ (v 10 + 1).toInt ∧ (v 7).toInt ≤ 48 ∧ ((48 ≤ (m_lk (va_up v 10 (v 10 + 1)) a).toInt → (m_lk (va_up v 10 (v 10 + 1)) a).toInt ≤ 51 → mT 3 sM_119 156 [(0, .ref 33)] [] (va_up v 10 (v 10 + 1 + 1)) a K) ∧ (((m_lk (va_up v 10 (v 10 + 1)) a).toInt < 48 ∨ 51 < (m_lk (va_up v 10 (v 10 + 1)) a).toInt) → K 0 (va_up v 10 (v 10 + 1)) a))) ∧ ((m_lk v a).toInt ≠ 94 → mT 3 sM_119 156 [(0, .ref 33)] [] v a K))) ∧ (p1.toInt = 0 → K 0 v a))))) : mT 3 sM_119 96 [(0, .ref 33), (1, .int p1)] [] v a K := by
  intro A B d dc ds P hP
  refine w_mv (pc1 := 97) (st1 := [.ref 33]) rfl rfl rfl ?_
  refine w_mv (pc1 := 99) (st1 := [.int 61, .ref 33]) rfl rfl rfl ?_
  refine w_call (M' := sM_118) (vals := [.ref 33, .int 61]) (rest := []) (lv' := [(0, .ref 33), (1, .int 61)]) rfl rfl rfl rfl rfl rfl rfl rfl rfl rfl ?_
  obtain ⟨o1a, o1b, hh⟩ := hh
  refine m_passes o1a o1b (fun h2a => ?_) (fun h2b => ?_)
  ·
    replace hh := hh.1 h2a
    show s_kont _ _ _ _ _ _ _ _ (mH A B (va_up v 10 (v 10 + 1)) a) _ _
    refine w_ki (pc1 := 102) rfl ?_
    refine w_mv (pc1 := 105) (st1 := []) rfl rfl rfl ?_
    refine w_mv (pc1 := 106) (st1 := [.ref 33]) rfl rfl rfl ?_
    refine w_mv (pc1 := 107) (st1 := [.int 0, .ref 33]) rfl rfl rfl ?_
    refine w_call (M' := sM_116) (vals := [.ref 33, .int 0]) (rest := []) (lv' := [(0, .ref 33), (1, .int 0)]) rfl rfl rfl rfl rfl rfl rfl rfl rfl rfl ?_
    refine hh A B _ dc ds _ (fun r3 v3 a3 hh => ?_)
    show s_kont _ _ _ _ _ _ _ (.inl (some (.int r3))) (mH A B v3 a3) dc ds
    refine w_ki (pc1 := 110) rfl ?_
    by_cases h4 : r3.toInt = 0
    ·
      replace hh := hh.2 h4
      refine w_zne_F (pc1 := 113) rfl (by decide) rfl (show r3.toInt = 0 from h4) ?_
      refine w_mv (pc1 := 114) (st1 := [.int 0]) rfl rfl rfl ?_
      exact sx_wp.stop rfl rfl rfl (hP 0 _ _ hh)
    ·
      replace hh := hh.1 h4
      refine w_zne_T (pc1 := 156) rfl rfl (show r3.toInt ≠ 0 from h4) ?_
      refine w_wk (l1 := [(0, .ref 33)]) rfl ⟨rfl, trivial⟩ ?_
      exact hh A B d dc ds P hP
  ·
    replace hh := hh.2 h2b
    refine w_ki (pc1 := 102) rfl ?_
    refine w_mv (pc1 := 115) (st1 := []) rfl rfl rfl ?_
    refine w_mv (pc1 := 116) (st1 := [.int p1]) rfl rfl rfl ?_
    by_cases h5 : p1.toInt = 0
    ·
      replace hh := hh.2 h5
      refine w_zne_F (pc1 := 119) rfl (by decide) rfl (show p1.toInt = 0 from h5) ?_
      refine w_mv (pc1 := 120) (st1 := [.int 0]) rfl rfl rfl ?_
      exact sx_wp.stop rfl rfl rfl (hP 0 _ _ hh)
    ·
      replace hh := hh.1 h5
      refine w_zne_T (pc1 := 121) rfl rfl (show p1.toInt ≠ 0 from h5) ?_
      refine w_mv (pc1 := 122) (st1 := [.ref 33]) rfl rfl rfl ?_
      refine w_mv (pc1 := 124) (st1 := [.int 94, .ref 33]) rfl rfl rfl ?_
      refine w_call (M' := sM_118) (vals := [.ref 33, .int 94]) (rest := []) (lv' := [(0, .ref 33), (1, .int 94)]) rfl rfl rfl rfl rfl rfl rfl rfl rfl rfl ?_
      obtain ⟨o6a, o6b, hh⟩ := hh
      refine m_passes o6a o6b (fun h7a => ?_) (fun h7b => ?_)
      ·
        replace hh := hh.1 h7a
        show s_kont _ _ _ _ _ _ _ _ (mH A B (va_up v 10 (v 10 + 1)) a) _ _
        refine w_ki (pc1 := 127) rfl ?_
        refine w_mv (pc1 := 130) (st1 := []) rfl rfl rfl ?_
        refine w_mv (pc1 := 131) (st1 := [.ref 33]) rfl rfl rfl ?_
        refine w_call (M' := sM_117) (vals := [.ref 33]) (rest := []) (lv' := [(0, .ref 33)]) rfl rfl rfl rfl rfl rfl rfl rfl rfl rfl ?_
        obtain ⟨o8a, o8b, hh⟩ := hh
        refine m_look o8a o8b ?_
        refine w_ki (pc1 := 134) rfl ?_
        refine w_mv (pc1 := 136) (st1 := [.int 48, .int (m_lk (va_up v 10 (v 10 + 1)) a)]) rfl rfl rfl ?_
        refine w_mv (pc1 := 138) (st1 := [.int 51, .int 48, .int (m_lk (va_up v 10 (v 10 + 1)) a)]) rfl rfl rfl ?_
        refine w_call (M' := sM_111) (vals := [.int (m_lk (va_up v 10 (v 10 + 1)) a), .int 48, .int 51]) (rest := []) (lv' := [(0, .int (m_lk (va_up v 10 (v 10 + 1)) a)), (1, .int 48), (2, .int 51)]) rfl rfl rfl rfl rfl rfl rfl rfl rfl rfl ?_
        refine m_in (fun h9a h9b => ?_) (fun h9c => ?_)
        ·
          replace hh := hh.1 h9a h9b
          refine w_ki (pc1 := 141) rfl ?_
          refine w_mv (pc1 := 146) (st1 := []) rfl rfl rfl ?_
          refine w_mv (pc1 := 147) (st1 := [.ref 33]) rfl rfl rfl ?_
          refine w_mv (pc1 := 148) (st1 := [.ref 33, .ref 33]) rfl rfl rfl ?_
          refine w_mv (pc1 := 151) (st1 := [.int (v 10 + 1), .ref 33]) rfl rfl rfl ?_
          refine w_mv (pc1 := 152) (st1 := [.int 1, .int (v 10 + 1), .ref 33]) rfl rfl rfl ?_
          refine w_mv (pc1 := 153) (st1 := [.int (v 10 + 1 + 1), .ref 33]) rfl rfl rfl ?_
          refine w_st (pc1 := 156) (st1 := []) (hs1 := mH A B (va_up v 10 (v 10 + 1 + 1)) a) (dc1 := 0) (ds1 := 0) (dc2 := dc) (ds2 := ds) rfl rfl rfl rfl rfl ?_
          refine w_wk (l1 := [(0, .ref 33)]) rfl ⟨rfl, trivial⟩ ?_
          exact hh A B d dc ds P hP
        ·
          replace hh := hh.2 h9c
          refine w_ki (pc1 := 141) rfl ?_
          refine w_mv (pc1 := 144) (st1 := []) rfl rfl rfl ?_
          refine w_mv (pc1 := 145) (st1 := [.int 0]) rfl rfl rfl ?_
          exact sx_wp.stop rfl rfl rfl (hP 0 _ _ hh)
      ·
        replace hh := hh.2 h7b
        refine w_ki (pc1 := 127) rfl ?_
        refine w_mv (pc1 := 156) (st1 := []) rfl rfl rfl ?_
        refine w_wk (l1 := [(0, .ref 33)]) rfl ⟨rfl, trivial⟩ ?_
        exact hh A B d dc ds P hP
set_option maxRecDepth 20000 in
set_option maxHeartbeats 4000000 in
theorem r_119_156  {v : Nat → Int32} {a : Nat → Nat → Int32} {K : Int32 → (Nat → Int32) → (Nat → Nat → Int32) → Prop} (hh : 0 ≤ (v 10).toInt ∧ (v 7).toInt ≤ 48 ∧ (((m_lk v a).toInt = 44 → mT 3 sM_119 0 [(0, .ref 33)] [] (va_up v 10 (v 10 + 1)) a K) ∧ ((m_lk v a).toInt ≠ 44 → (((v 10).toInt ≠ (v 7).toInt → K 0 v a) ∧ ((v 10).toInt = (v 7).toInt → K 1 v a))))) : mT 3 sM_119 156 [(0, .ref 33)] [] v a K := by
  intro A B d dc ds P hP
  refine w_mv (pc1 := 157) (st1 := [.ref 33]) rfl rfl rfl ?_
  refine w_mv (pc1 := 159) (st1 := [.int 44, .ref 33]) rfl rfl rfl ?_
  refine w_call (M' := sM_118) (vals := [.ref 33, .int 44]) (rest := []) (lv' := [(0, .ref 33), (1, .int 44)]) rfl rfl rfl rfl rfl rfl rfl rfl rfl rfl ?_
  obtain ⟨o1a, o1b, hh⟩ := hh
  refine m_passes o1a o1b (fun h2a => ?_) (fun h2b => ?_)
  ·
    replace hh := hh.1 h2a
    show s_kont _ _ _ _ _ _ _ _ (mH A B (va_up v 10 (v 10 + 1)) a) _ _
    refine w_ki (pc1 := 162) rfl ?_
    refine w_mv (pc1 := 0) (st1 := []) rfl rfl rfl ?_
    refine w_wk (l1 := [(0, .ref 33)]) rfl ⟨rfl, trivial⟩ ?_
    exact hh A B d dc ds P hP
  ·
    replace hh := hh.2 h2b
    refine w_ki (pc1 := 162) rfl ?_
    refine w_mv (pc1 := 165) (st1 := []) rfl rfl rfl ?_
    refine w_mv (pc1 := 166) (st1 := [.ref 33]) rfl rfl rfl ?_
    refine w_mv (pc1 := 169) (st1 := [.int (v 10)]) rfl rfl rfl ?_
    refine w_mv (pc1 := 170) (st1 := [.ref 33, .int (v 10)]) rfl rfl rfl ?_
    refine w_mv (pc1 := 173) (st1 := [.int (v 7), .int (v 10)]) rfl rfl rfl ?_
    by_cases h3 : (v 10).toInt = (v 7).toInt
    ·
      replace hh := hh.2 h3
      refine w_ine_F (pc1 := 176) rfl (by decide) rfl (show (v 10).toInt = (v 7).toInt from h3) ?_
      refine w_mv (pc1 := 177) (st1 := [.int 1]) rfl rfl rfl ?_
      refine w_mv (pc1 := 181) (st1 := [.int 1]) rfl rfl rfl ?_
      exact sx_wp.stop rfl rfl rfl (hP 1 _ _ hh)
    ·
      replace hh := hh.1 h3
      refine w_ine_T (pc1 := 180) rfl rfl (show (v 10).toInt ≠ (v 7).toInt from h3) ?_
      refine w_mv (pc1 := 181) (st1 := [.int 0]) rfl rfl rfl ?_
      exact sx_wp.stop rfl rfl rfl (hP 0 _ _ hh)
set_option maxRecDepth 20000 in
set_option maxHeartbeats 4000000 in
theorem r_120_0 {p1 : Int32} {v : Nat → Int32} {a : Nat → Nat → Int32} {K : Int32 → (Nat → Int32) → (Nat → Nat → Int32) → Prop} (hh : ((0 ≤ p1.toInt → p1.toInt ≤ (v 8 - 1).toInt → mT 1 sM_120 31 [(0, .ref 33), (1, .int p1), (2, .int p1)] [] (va_up (va_up v 11 0) 8 (v 8 - 1)) a K) ∧ ((p1.toInt < 0 ∨ (v 8 - 1).toInt < p1.toInt) → K 0 (va_up v 11 1) a))) : mT 1 sM_120 0 [(0, .ref 33), (1, .int p1)] [] v a K := by
  intro A B d dc ds P hP
  refine w_mv (pc1 := 1) (st1 := [.ref 33]) rfl rfl rfl ?_
  refine w_mv (pc1 := 2) (st1 := [.int p1, .ref 33]) rfl rfl rfl ?_
  refine w_mv (pc1 := 3) (st1 := [.int 0, .int p1, .ref 33]) rfl rfl rfl ?_
  refine w_mv (pc1 := 4) (st1 := [.ref 33, .int 0, .int p1, .ref 33]) rfl rfl rfl ?_
  refine w_mv (pc1 := 7) (st1 := [.int (v 8), .int 0, .int p1, .ref 33]) rfl rfl rfl ?_
  refine w_mv (pc1 := 8) (st1 := [.int 1, .int (v 8), .int 0, .int p1, .ref 33]) rfl rfl rfl ?_
  refine w_mv (pc1 := 9) (st1 := [.int (v 8 - 1), .int 0, .int p1, .ref 33]) rfl rfl rfl ?_
  refine w_call (M' := sM_111) (vals := [.int p1, .int 0, .int (v 8 - 1)]) (rest := [.ref 33]) (lv' := [(0, .int p1), (1, .int 0), (2, .int (v 8 - 1))]) rfl rfl rfl rfl rfl rfl rfl rfl rfl rfl ?_
  refine m_in (fun h1a h1b => ?_) (fun h1c => ?_)
  ·
    replace hh := hh.1 h1a h1b
    refine w_ki (pc1 := 12) rfl ?_
    refine w_call (M' := sM_112) (vals := [.ref 33, .int 1]) (rest := []) (lv' := [(0, .ref 33), (1, .int 1)]) rfl rfl rfl rfl rfl rfl rfl rfl rfl rfl ?_
    refine w_mv (pc1 := 1) (st1 := [.ref 33]) rfl rfl rfl ?_
    refine w_mv (pc1 := 2) (st1 := [.int 1, .ref 33]) rfl rfl rfl ?_
    refine w_mv (pc1 := 5) (st1 := [.ref 33]) rfl rfl rfl ?_
    refine w_mv (pc1 := 6) (st1 := [.int 0, .ref 33]) rfl rfl rfl ?_
    refine w_mv (pc1 := 10) (st1 := [.int 0, .ref 33]) rfl rfl rfl ?_
    refine w_st (pc1 := 13) (st1 := []) (hs1 := mH A B (va_up v 11 0) a) (dc1 := 0) (ds1 := 0) (dc2 := dc) (ds2 := ds) rfl rfl rfl rfl rfl ?_
    refine w_mv (pc1 := 14) (st1 := [.int 1]) rfl rfl rfl ?_
    refine w_mv (pc1 := 21) (st1 := []) rfl rfl rfl ?_
    refine w_mv (pc1 := 22) (st1 := [.int 0]) rfl rfl rfl ?_
    refine w_iret (pc1 := 15) rfl rfl rfl rfl ?_
    refine w_mv (pc1 := 19) (st1 := []) rfl rfl rfl ?_
    refine w_mv (pc1 := 20) (st1 := [.ref 33]) rfl rfl rfl ?_
    refine w_mv (pc1 := 21) (st1 := [.ref 33, .ref 33]) rfl rfl rfl ?_
    refine w_mv (pc1 := 24) (st1 := [.int (v 8), .ref 33]) rfl rfl rfl ?_
    refine w_mv (pc1 := 25) (st1 := [.int 1, .int (v 8), .ref 33]) rfl rfl rfl ?_
    refine w_mv (pc1 := 26) (st1 := [.int (v 8 - 1), .ref 33]) rfl rfl rfl ?_
    refine w_st (pc1 := 29) (st1 := []) (hs1 := mH A B (va_up (va_up v 11 0) 8 (v 8 - 1)) a) (dc1 := 0) (ds1 := 0) (dc2 := dc) (ds2 := ds) rfl rfl rfl rfl rfl ?_
    refine w_mv (pc1 := 30) (st1 := [.int p1]) rfl rfl rfl ?_
    refine w_mv (pc1 := 31) (lv1 := [(2, .int p1), (0, .ref 33), (1, .int p1)]) (st1 := []) rfl rfl rfl ?_
    refine w_wk (l1 := [(0, .ref 33), (1, .int p1), (2, .int p1)]) rfl ⟨rfl, rfl, rfl, trivial⟩ ?_
    exact hh A B d dc ds P hP
  ·
    replace hh := hh.2 h1c
    refine w_ki (pc1 := 12) rfl ?_
    refine w_call (M' := sM_112) (vals := [.ref 33, .int 0]) (rest := []) (lv' := [(0, .ref 33), (1, .int 0)]) rfl rfl rfl rfl rfl rfl rfl rfl rfl rfl ?_
    refine w_mv (pc1 := 1) (st1 := [.ref 33]) rfl rfl rfl ?_
    refine w_mv (pc1 := 2) (st1 := [.int 0, .ref 33]) rfl rfl rfl ?_
    refine w_mv (pc1 := 9) (st1 := [.ref 33]) rfl rfl rfl ?_
    refine w_mv (pc1 := 10) (st1 := [.int 1, .ref 33]) rfl rfl rfl ?_
    refine w_st (pc1 := 13) (st1 := []) (hs1 := mH A B (va_up v 11 1) a) (dc1 := 0) (ds1 := 0) (dc2 := dc) (ds2 := ds) rfl rfl rfl rfl rfl ?_
    refine w_mv (pc1 := 14) (st1 := [.int 0]) rfl rfl rfl ?_
    refine w_mv (pc1 := 17) (st1 := []) rfl rfl rfl ?_
    refine w_mv (pc1 := 18) (st1 := [.int 1]) rfl rfl rfl ?_
    refine w_mv (pc1 := 22) (st1 := [.int 1]) rfl rfl rfl ?_
    refine w_iret (pc1 := 15) rfl rfl rfl rfl ?_
    refine w_mv (pc1 := 18) (st1 := []) rfl rfl rfl ?_
    exact sx_wp.stop rfl rfl rfl (hP 0 _ _ hh)
set_option maxRecDepth 20000 in
set_option maxHeartbeats 4000000 in
theorem r_120_31 {p1 : Int32} {p2 : Int32} {v : Nat → Int32} {a : Nat → Nat → Int32} {K : Int32 → (Nat → Int32) → (Nat → Nat → Int32) → Prop} (hh : (((v 8).toInt ≤ p2.toInt → K 0 v a) ∧ (p2.toInt < (v 8).toInt → 0 ≤ (p2 + 1).toInt ∧ (p2 + 1).toInt < 12 ∧ 0 ≤ p2.toInt ∧ p2.toInt < 12 ∧ mT 1 sM_120 55 [(0, .ref 33), (1, .int p1), (2, .int p2), (3, .int 0)] [] v (va_up a 2 (upd (a 2) p2.toNatClampNeg ((a 2) (p2 + 1).toNatClampNeg))) K))) : mT 1 sM_120 31 [(0, .ref 33), (1, .int p1), (2, .int p2)] [] v a K := by
  intro A B d dc ds P hP
  refine w_mv (pc1 := 32) (st1 := [.int p2]) rfl rfl rfl ?_
  refine w_mv (pc1 := 33) (st1 := [.ref 33, .int p2]) rfl rfl rfl ?_
  refine w_mv (pc1 := 36) (st1 := [.int (v 8), .int p2]) rfl rfl rfl ?_
  by_cases h1 : (v 8).toInt ≤ p2.toInt
  ·
    replace hh := hh.1 h1
    refine w_ige_T (pc1 := 98) rfl rfl (show (v 8).toInt ≤ p2.toInt from h1) ?_
    exact sx_wp.stop rfl rfl rfl (hP 0 _ _ hh)
  ·
    replace hh := hh.2 (Int.not_le.mp h1)
    refine w_ige_F (pc1 := 39) rfl (by decide) rfl (show p2.toInt < (v 8).toInt from (Int.not_le.mp h1)) ?_
    refine w_mv (pc1 := 40) (st1 := [.ref 33]) rfl rfl rfl ?_
    refine w_mv (pc1 := 43) (st1 := [.ref 36]) rfl rfl rfl ?_
    refine w_mv (pc1 := 44) (st1 := [.int p2, .ref 36]) rfl rfl rfl ?_
    refine w_mv (pc1 := 45) (st1 := [.ref 33, .int p2, .ref 36]) rfl rfl rfl ?_
    refine w_mv (pc1 := 48) (st1 := [.ref 36, .int p2, .ref 36]) rfl rfl rfl ?_
    refine w_mv (pc1 := 49) (st1 := [.int p2, .ref 36, .int p2, .ref 36]) rfl rfl rfl ?_
    refine w_mv (pc1 := 50) (st1 := [.int 1, .int p2, .ref 36, .int p2, .ref 36]) rfl rfl rfl ?_
    refine w_mv (pc1 := 51) (st1 := [.int (p2 + 1), .ref 36, .int p2, .ref 36]) rfl rfl rfl ?_
    obtain ⟨o2a, o2b, hh⟩ := hh
    refine w_ald (x := 36) (t := 0) (A := (12, .inl (a 2))) (v := .int ((a 2) (p2 + 1).toNatClampNeg)) (pc1 := 52) rfl rfl rfl rfl rfl o2a o2b rfl rfl ?_
    obtain ⟨o3a, o3b, hh⟩ := hh
    refine w_ast (x := 36) (t := 0) (n := 12) (f := (a 2)) (ty := .int) (nw := fun x => x) (pc1 := 53) (hs1 := mH A B v (va_up a 2 (upd (a 2) p2.toNatClampNeg ((a 2) (p2 + 1).toNatClampNeg)))) rfl rfl rfl rfl rfl rfl o3a o3b rfl mst_2 ?_
    refine w_mv (pc1 := 54) (st1 := [.int 0]) rfl rfl rfl ?_
    refine w_mv (pc1 := 55) (lv1 := [(3, .int 0), (0, .ref 33), (1, .int p1), (2, .int p2)]) (st1 := []) rfl rfl rfl ?_
    refine w_wk (l1 := [(0, .ref 33), (1, .int p1), (2, .int p2), (3, .int 0)]) rfl ⟨rfl, rfl, rfl, rfl, trivial⟩ ?_
    exact hh A B d dc ds P hP
set_option maxRecDepth 20000 in
set_option maxHeartbeats 4000000 in
theorem r_120_55 {p1 : Int32} {p2 : Int32} {p3 : Int32} {v : Nat → Int32} {a : Nat → Nat → Int32} {K : Int32 → (Nat → Int32) → (Nat → Nat → Int32) → Prop} (hh : ((48 ≤ p3.toInt → mT 1 sM_120 31 [(0, .ref 33), (1, .int p1), (2, .int (p2 + 1))] [] v a K) ∧ (p3.toInt < 48 → 0 ≤ (((p2 * 48) + 48) + p3).toInt ∧ (((p2 * 48) + 48) + p3).toInt < 624 ∧ 0 ≤ ((p2 * 48) + p3).toInt ∧ ((p2 * 48) + p3).toInt < 624 ∧ mT 1 sM_120 55 [(0, .ref 33), (1, .int p1), (2, .int p2), (3, .int (p3 + 1))] [] v (va_up a 1 (upd (a 1) ((p2 * 48) + p3).toNatClampNeg ((a 1) (((p2 * 48) + 48) + p3).toNatClampNeg))) K))) : mT 1 sM_120 55 [(0, .ref 33), (1, .int p1), (2, .int p2), (3, .int p3)] [] v a K := by
  intro A B d dc ds P hP
  refine w_mv (pc1 := 56) (st1 := [.int p3]) rfl rfl rfl ?_
  refine w_mv (pc1 := 58) (st1 := [.int 48, .int p3]) rfl rfl rfl ?_
  by_cases h1 : 48 ≤ p3.toInt
  ·
    replace hh := hh.1 h1
    refine w_ige_T (pc1 := 92) rfl rfl (show 48 ≤ p3.toInt from h1) ?_
    refine w_mv (pc1 := 95) (lv1 := [(2, .int (p2 + 1)), (0, .ref 33), (1, .int p1), (3, .int p3)]) (st1 := []) rfl rfl rfl ?_
    refine w_mv (pc1 := 31) (st1 := []) rfl rfl rfl ?_
    refine w_wk (l1 := [(0, .ref 33), (1, .int p1), (2, .int (p2 + 1))]) rfl ⟨rfl, rfl, rfl, trivial⟩ ?_
    exact hh A B d dc ds P hP
  ·
    replace hh := hh.2 (Int.not_le.mp h1)
    refine w_ige_F (pc1 := 61) rfl (by decide) rfl (show p3.toInt < 48 from (Int.not_le.mp h1)) ?_
    refine w_mv (pc1 := 62) (st1 := [.ref 33]) rfl rfl rfl ?_
    refine w_mv (pc1 := 65) (st1 := [.ref 35]) rfl rfl rfl ?_
    refine w_mv (pc1 := 66) (st1 := [.int p2, .ref 35]) rfl rfl rfl ?_
    refine w_mv (pc1 := 68) (st1 := [.int 48, .int p2, .ref 35]) rfl rfl rfl ?_
    refine w_mv (pc1 := 69) (st1 := [.int (p2 * 48), .ref 35]) rfl rfl rfl ?_
    refine w_mv (pc1 := 70) (st1 := [.int p3, .int (p2 * 48), .ref 35]) rfl rfl rfl ?_
    refine w_mv (pc1 := 71) (st1 := [.int ((p2 * 48) + p3), .ref 35]) rfl rfl rfl ?_
    refine w_mv (pc1 := 72) (st1 := [.ref 33, .int ((p2 * 48) + p3), .ref 35]) rfl rfl rfl ?_
    refine w_mv (pc1 := 75) (st1 := [.ref 35, .int ((p2 * 48) + p3), .ref 35]) rfl rfl rfl ?_
    refine w_mv (pc1 := 76) (st1 := [.int p2, .ref 35, .int ((p2 * 48) + p3), .ref 35]) rfl rfl rfl ?_
    refine w_mv (pc1 := 78) (st1 := [.int 48, .int p2, .ref 35, .int ((p2 * 48) + p3), .ref 35]) rfl rfl rfl ?_
    refine w_mv (pc1 := 79) (st1 := [.int (p2 * 48), .ref 35, .int ((p2 * 48) + p3), .ref 35]) rfl rfl rfl ?_
    refine w_mv (pc1 := 81) (st1 := [.int 48, .int (p2 * 48), .ref 35, .int ((p2 * 48) + p3), .ref 35]) rfl rfl rfl ?_
    refine w_mv (pc1 := 82) (st1 := [.int ((p2 * 48) + 48), .ref 35, .int ((p2 * 48) + p3), .ref 35]) rfl rfl rfl ?_
    refine w_mv (pc1 := 83) (st1 := [.int p3, .int ((p2 * 48) + 48), .ref 35, .int ((p2 * 48) + p3), .ref 35]) rfl rfl rfl ?_
    refine w_mv (pc1 := 84) (st1 := [.int (((p2 * 48) + 48) + p3), .ref 35, .int ((p2 * 48) + p3), .ref 35]) rfl rfl rfl ?_
    obtain ⟨o2a, o2b, hh⟩ := hh
    refine w_ald (x := 35) (t := 0) (A := (624, .inl (a 1))) (v := .int ((a 1) (((p2 * 48) + 48) + p3).toNatClampNeg)) (pc1 := 85) rfl rfl rfl rfl rfl o2a o2b rfl rfl ?_
    obtain ⟨o3a, o3b, hh⟩ := hh
    refine w_ast (x := 35) (t := 0) (n := 624) (f := (a 1)) (ty := .int) (nw := fun x => x) (pc1 := 86) (hs1 := mH A B v (va_up a 1 (upd (a 1) ((p2 * 48) + p3).toNatClampNeg ((a 1) (((p2 * 48) + 48) + p3).toNatClampNeg)))) rfl rfl rfl rfl rfl rfl o3a o3b rfl mst_1 ?_
    refine w_mv (pc1 := 89) (lv1 := [(3, .int (p3 + 1)), (0, .ref 33), (1, .int p1), (2, .int p2)]) (st1 := []) rfl rfl rfl ?_
    refine w_mv (pc1 := 55) (st1 := []) rfl rfl rfl ?_
    refine w_wk (l1 := [(0, .ref 33), (1, .int p1), (2, .int p2), (3, .int (p3 + 1))]) rfl ⟨rfl, rfl, rfl, rfl, trivial⟩ ?_
    exact hh A B d dc ds P hP
set_option maxRecDepth 20000 in
set_option maxHeartbeats 4000000 in
theorem r_121_0  {v : Nat → Int32} {a : Nat → Nat → Int32} {K : Int32 → (Nat → Int32) → (Nat → Nat → Int32) → Prop} (hh : mT 3 sM_119 0 [(0, .ref 33)] [] (va_up v 10 0) a (fun r1 v1 a1 => ((r1.toInt ≠ 0 → ((r1.toInt = 0 → ((r1.toInt ≠ 0 → mT 5 sM_121 44 [(0, .ref 33), (1, .int r1), (2, .int (v1 7)), (3, .int 0)] [] (va_up (va_up v1 7 0) 11 1) a1 K) ∧ (r1.toInt = 0 → K 0 (va_up (va_up v1 7 0) 11 1) a1))) ∧ (r1.toInt ≠ 0 → ((r1.toInt ≠ 0 → mT 5 sM_121 44 [(0, .ref 33), (1, .int r1), (2, .int (v1 7)), (3, .int 0)] [] (va_up (va_up v1 7 0) 11 0) a1 K) ∧ (r1.toInt = 0 → K 0 (va_up (va_up v1 7 0) 11 0) a1))))) ∧ (r1.toInt = 0 → ((r1.toInt = 0 → ((r1.toInt ≠ 0 → mT 5 sM_121 44 [(0, .ref 33), (1, .int r1), (2, .int (v1 7)), (3, .int 0)] [] (va_up (va_up (va_up v1 9 (v1 10)) 7 0) 11 1) a1 K) ∧ (r1.toInt = 0 → K 0 (va_up (va_up (va_up v1 9 (v1 10)) 7 0) 11 1) a1))) ∧ (r1.toInt ≠ 0 → ((r1.toInt ≠ 0 → mT 5 sM_121 44 [(0, .ref 33), (1, .int r1), (2, .int (v1 7)), (3, .int 0)] [] (va_up (va_up (va_up v1 9 (v1 10)) 7 0) 11 0) a1 K) ∧ (r1.toInt = 0 → K 0 (va_up (va_up (va_up v1 9 (v1 10)) 7 0) 11 0) a1)))))))) : mT 5 sM_121 0 [(0, .ref 33)] [] v a K := by
  intro A B d dc ds P hP
  refine w_mv (pc1 := 1) (st1 := [.ref 33]) rfl rfl rfl ?_
  refine w_mv (pc1 := 2) (st1 := [.int 0, .ref 33]) rfl rfl rfl ?_
  refine w_st (pc1 := 5) (st1 := []) (hs1 := mH A B (va_up v 10 0) a) (dc1 := 0) (ds1 := 0) (dc2 := dc) (ds2 := ds) rfl rfl rfl rfl rfl ?_
  refine w_mv (pc1 := 6) (st1 := [.ref 33]) rfl rfl rfl ?_
  refine w_call (M' := sM_119) (vals := [.ref 33]) (rest := []) (lv' := [(0, .ref 33)]) rfl rfl rfl rfl rfl rfl rfl rfl rfl rfl ?_
  refine hh A B _ dc ds _ (fun r1 v1 a1 hh => ?_)
  show s_kont _ _ _ _ _ _ _ (.inl (some (.int r1))) (mH A B v1 a1) dc ds
  refine w_ki (pc1 := 9) rfl ?_
  refine w_mv (pc1 := 10) (lv1 := [(1, .int r1), (0, .ref 33)]) (st1 := []) rfl rfl rfl ?_
  refine w_mv (pc1 := 11) (st1 := [.int r1]) rfl rfl rfl ?_
  by_cases h2 : r1.toInt = 0
  ·
    replace hh := hh.2 h2
    refine w_zne_F (pc1 := 14) rfl (by decide) rfl (show r1.toInt = 0 from h2) ?_
    refine w_mv (pc1 := 15) (st1 := [.ref 33]) rfl rfl rfl ?_
    refine w_mv (pc1 := 16) (st1 := [.ref 33, .ref 33]) rfl rfl rfl ?_
    refine w_mv (pc1 := 19) (st1 := [.int (v1 10), .ref 33]) rfl rfl rfl ?_
    refine w_st (pc1 := 22) (st1 := []) (hs1 := mH A B (va_up v1 9 (v1 10)) a1) (dc1 := 0) (ds1 := 0) (dc2 := dc) (ds2 := ds) rfl rfl rfl rfl rfl ?_
    refine w_mv (pc1 := 23) (st1 := [.ref 33]) rfl rfl rfl ?_
    refine w_mv (pc1 := 26) (st1 := [.int (v1 7)]) rfl rfl rfl ?_
    refine w_mv (pc1 := 27) (lv1 := [(2, .int (v1 7)), (1, .int r1), (0, .ref 33)]) (st1 := []) rfl rfl rfl ?_
    refine w_mv (pc1 := 28) (st1 := [.ref 33]) rfl rfl rfl ?_
    refine w_mv (pc1 := 29) (st1 := [.int 0, .ref 33]) rfl rfl rfl ?_
    refine w_st (pc1 := 32) (st1 := []) (hs1 := mH A B (va_up (va_up v1 9 (v1 10)) 7 0) a1) (dc1 := 0) (ds1 := 0) (dc2 := dc) (ds2 := ds) rfl rfl rfl rfl rfl ?_
    refine w_mv (pc1 := 33) (st1 := [.ref 33]) rfl rfl rfl ?_
    refine w_mv (pc1 := 34) (st1 := [.int r1, .ref 33]) rfl rfl rfl ?_
    refine w_call (M' := sM_112) (vals := [.ref 33, .int r1]) (rest := []) (lv' := [(0, .ref 33), (1, .int r1)]) rfl rfl rfl rfl rfl rfl rfl rfl rfl rfl ?_
    refine w_mv (pc1 := 1) (st1 := [.ref 33]) rfl rfl rfl ?_
    refine w_mv (pc1 := 2) (st1 := [.int r1, .ref 33]) rfl rfl rfl ?_
    by_cases h3 : r1.toInt = 0
    ·
      replace hh := hh.1 h3
      refine w_zeq_T (pc1 := 9) rfl rfl (show r1.toInt = 0 from h3) ?_
      refine w_mv (pc1 := 10) (st1 := [.int 1, .ref 33]) rfl rfl rfl ?_
      refine w_st (pc1 := 13) (st1 := []) (hs1 := mH A B (va_up (va_up (va_up v1 9 (v1 10)) 7 0) 11 1) a1) (dc1 := 0) (ds1 := 0) (dc2 := dc) (ds2 := ds) rfl rfl rfl rfl rfl ?_
      refine w_mv (pc1 := 14) (st1 := [.int r1]) rfl rfl rfl ?_
      by_cases h4 : r1.toInt = 0
      ·
        replace hh := hh.2 h4
        refine w_zne_F (pc1 := 17) rfl (by decide) rfl (show r1.toInt = 0 from h4) ?_
        refine w_mv (pc1 := 18) (st1 := [.int 1]) rfl rfl rfl ?_
        refine w_mv (pc1 := 22) (st1 := [.int 1]) rfl rfl rfl ?_
        refine w_iret (pc1 := 37) rfl rfl rfl rfl ?_
        refine w_mv (pc1 := 40) (st1 := []) rfl rfl rfl ?_
        refine w_mv (pc1 := 41) (st1 := [.int 0]) rfl rfl rfl ?_
        exact sx_wp.stop rfl rfl rfl (hP 0 _ _ hh)
      ·
        replace hh := hh.1 h4
        refine w_zne_T (pc1 := 21) rfl rfl (show r1.toInt ≠ 0 from h4) ?_
        refine w_mv (pc1 := 22) (st1 := [.int 0]) rfl rfl rfl ?_
        refine w_iret (pc1 := 37) rfl rfl rfl rfl ?_
        refine w_mv (pc1 := 42) (st1 := []) rfl rfl rfl ?_
        refine w_mv (pc1 := 43) (st1 := [.int 0]) rfl rfl rfl ?_
        refine w_mv (pc1 := 44) (lv1 := [(3, .int 0), (2, .int (v1 7)), (1, .int r1), (0, .ref 33)]) (st1 := []) rfl rfl rfl ?_
        refine w_wk (l1 := [(0, .ref 33), (1, .int r1), (2, .int (v1 7)), (3, .int 0)]) rfl ⟨rfl, rfl, rfl, rfl, trivial⟩ ?_
        exact hh A B d dc ds P hP
    ·
      replace hh := hh.2 h3
      refine w_zeq_F (pc1 := 5) rfl (by decide) rfl (show r1.toInt ≠ 0 from h3) ?_
      refine w_mv (pc1 := 6) (st1 := [.int 0, .ref 33]) rfl rfl rfl ?_
      refine w_mv (pc1 := 10) (st1 := [.int 0, .ref 33]) rfl rfl rfl ?_
      refine w_st (pc1 := 13) (st1 := []) (hs1 := mH A B (va_up (va_up (va_up v1 9 (v1 10)) 7 0) 11 0) a1) (dc1 := 0) (ds1 := 0) (dc2 := dc) (ds2 := ds) rfl rfl rfl rfl rfl ?_
      refine w_mv (pc1 := 14) (st1 := [.int r1]) rfl rfl rfl ?_
      by_cases h5 : r1.toInt = 0
      ·
        replace hh := hh.2 h5
        refine w_zne_F (pc1 := 17) rfl (by decide) rfl (show r1.toInt = 0 from h5) ?_
        refine w_mv (pc1 := 18) (st1 := [.int 1]) rfl rfl rfl ?_
        refine w_mv (pc1 := 22) (st1 := [.int 1]) rfl rfl rfl ?_
        refine w_iret (pc1 := 37) rfl rfl rfl rfl ?_
        refine w_mv (pc1 := 40) (st1 := []) rfl rfl rfl ?_
        refine w_mv (pc1 := 41) (st1 := [.int 0]) rfl rfl rfl ?_
        exact sx_wp.stop rfl rfl rfl (hP 0 _ _ hh)
      ·
        replace hh := hh.1 h5
        refine w_zne_T (pc1 := 21) rfl rfl (show r1.toInt ≠ 0 from h5) ?_
        refine w_mv (pc1 := 22) (st1 := [.int 0]) rfl rfl rfl ?_
        refine w_iret (pc1 := 37) rfl rfl rfl rfl ?_
        refine w_mv (pc1 := 42) (st1 := []) rfl rfl rfl ?_
        refine w_mv (pc1 := 43) (st1 := [.int 0]) rfl rfl rfl ?_
        refine w_mv (pc1 := 44) (lv1 := [(3, .int 0), (2, .int (v1 7)), (1, .int r1), (0, .ref 33)]) (st1 := []) rfl rfl rfl ?_
        refine w_wk (l1 := [(0, .ref 33), (1, .int r1), (2, .int (v1 7)), (3, .int 0)]) rfl ⟨rfl, rfl, rfl, rfl, trivial⟩ ?_
        exact hh A B d dc ds P hP
  ·
    replace hh := hh.1 h2
    refine w_zne_T (pc1 := 22) rfl rfl (show r1.toInt ≠ 0 from h2) ?_
    refine w_mv (pc1 := 23) (st1 := [.ref 33]) rfl rfl rfl ?_
    refine w_mv (pc1 := 26) (st1 := [.int (v1 7)]) rfl rfl rfl ?_
    refine w_mv (pc1 := 27) (lv1 := [(2, .int (v1 7)), (1, .int r1), (0, .ref 33)]) (st1 := []) rfl rfl rfl ?_
    refine w_mv (pc1 := 28) (st1 := [.ref 33]) rfl rfl rfl ?_
    refine w_mv (pc1 := 29) (st1 := [.int 0, .ref 33]) rfl rfl rfl ?_
    refine w_st (pc1 := 32) (st1 := []) (hs1 := mH A B (va_up v1 7 0) a1) (dc1 := 0) (ds1 := 0) (dc2 := dc) (ds2 := ds) rfl rfl rfl rfl rfl ?_
    refine w_mv (pc1 := 33) (st1 := [.ref 33]) rfl rfl rfl ?_
    refine w_mv (pc1 := 34) (st1 := [.int r1, .ref 33]) rfl rfl rfl ?_
    refine w_call (M' := sM_112) (vals := [.ref 33, .int r1]) (rest := []) (lv' := [(0, .ref 33), (1, .int r1)]) rfl rfl rfl rfl rfl rfl rfl rfl rfl rfl ?_
    refine w_mv (pc1 := 1) (st1 := [.ref 33]) rfl rfl rfl ?_
    refine w_mv (pc1 := 2) (st1 := [.int r1, .ref 33]) rfl rfl rfl ?_
    by_cases h6 : r1.toInt = 0
    ·
      replace hh := hh.1 h6
      refine w_zeq_T (pc1 := 9) rfl rfl (show r1.toInt = 0 from h6) ?_
      refine w_mv (pc1 := 10) (st1 := [.int 1, .ref 33]) rfl rfl rfl ?_
      refine w_st (pc1 := 13) (st1 := []) (hs1 := mH A B (va_up (va_up v1 7 0) 11 1) a1) (dc1 := 0) (ds1 := 0) (dc2 := dc) (ds2 := ds) rfl rfl rfl rfl rfl ?_
      refine w_mv (pc1 := 14) (st1 := [.int r1]) rfl rfl rfl ?_
      by_cases h7 : r1.toInt = 0
      ·
        replace hh := hh.2 h7
        refine w_zne_F (pc1 := 17) rfl (by decide) rfl (show r1.toInt = 0 from h7) ?_
        refine w_mv (pc1 := 18) (st1 := [.int 1]) rfl rfl rfl ?_
        refine w_mv (pc1 := 22) (st1 := [.int 1]) rfl rfl rfl ?_
        refine w_iret (pc1 := 37) rfl rfl rfl rfl ?_
        refine w_mv (pc1 := 40) (st1 := []) rfl rfl rfl ?_
        refine w_mv (pc1 := 41) (st1 := [.int 0]) rfl rfl rfl ?_
        exact sx_wp.stop rfl rfl rfl (hP 0 _ _ hh)
      ·
        replace hh := hh.1 h7
        refine w_zne_T (pc1 := 21) rfl rfl (show r1.toInt ≠ 0 from h7) ?_
        refine w_mv (pc1 := 22) (st1 := [.int 0]) rfl rfl rfl ?_
        refine w_iret (pc1 := 37) rfl rfl rfl rfl ?_
        refine w_mv (pc1 := 42) (st1 := []) rfl rfl rfl ?_
        refine w_mv (pc1 := 43) (st1 := [.int 0]) rfl rfl rfl ?_
        refine w_mv (pc1 := 44) (lv1 := [(3, .int 0), (2, .int (v1 7)), (1, .int r1), (0, .ref 33)]) (st1 := []) rfl rfl rfl ?_
        refine w_wk (l1 := [(0, .ref 33), (1, .int r1), (2, .int (v1 7)), (3, .int 0)]) rfl ⟨rfl, rfl, rfl, rfl, trivial⟩ ?_
        exact hh A B d dc ds P hP
    ·
      replace hh := hh.2 h6
      refine w_zeq_F (pc1 := 5) rfl (by decide) rfl (show r1.toInt ≠ 0 from h6) ?_
      refine w_mv (pc1 := 6) (st1 := [.int 0, .ref 33]) rfl rfl rfl ?_
      refine w_mv (pc1 := 10) (st1 := [.int 0, .ref 33]) rfl rfl rfl ?_
      refine w_st (pc1 := 13) (st1 := []) (hs1 := mH A B (va_up (va_up v1 7 0) 11 0) a1) (dc1 := 0) (ds1 := 0) (dc2 := dc) (ds2 := ds) rfl rfl rfl rfl rfl ?_
      refine w_mv (pc1 := 14) (st1 := [.int r1]) rfl rfl rfl ?_
      by_cases h8 : r1.toInt = 0
      ·
        replace hh := hh.2 h8
        refine w_zne_F (pc1 := 17) rfl (by decide) rfl (show r1.toInt = 0 from h8) ?_
        refine w_mv (pc1 := 18) (st1 := [.int 1]) rfl rfl rfl ?_
        refine w_mv (pc1 := 22) (st1 := [.int 1]) rfl rfl rfl ?_
        refine w_iret (pc1 := 37) rfl rfl rfl rfl ?_
        refine w_mv (pc1 := 40) (st1 := []) rfl rfl rfl ?_
        refine w_mv (pc1 := 41) (st1 := [.int 0]) rfl rfl rfl ?_
        exact sx_wp.stop rfl rfl rfl (hP 0 _ _ hh)
      ·
        replace hh := hh.1 h8
        refine w_zne_T (pc1 := 21) rfl rfl (show r1.toInt ≠ 0 from h8) ?_
        refine w_mv (pc1 := 22) (st1 := [.int 0]) rfl rfl rfl ?_
        refine w_iret (pc1 := 37) rfl rfl rfl rfl ?_
        refine w_mv (pc1 := 42) (st1 := []) rfl rfl rfl ?_
        refine w_mv (pc1 := 43) (st1 := [.int 0]) rfl rfl rfl ?_
        refine w_mv (pc1 := 44) (lv1 := [(3, .int 0), (2, .int (v1 7)), (1, .int r1), (0, .ref 33)]) (st1 := []) rfl rfl rfl ?_
        refine w_wk (l1 := [(0, .ref 33), (1, .int r1), (2, .int (v1 7)), (3, .int 0)]) rfl ⟨rfl, rfl, rfl, rfl, trivial⟩ ?_
        exact hh A B d dc ds P hP
set_option maxRecDepth 20000 in
set_option maxHeartbeats 4000000 in
theorem r_121_44 {p1 : Int32} {p2 : Int32} {p3 : Int32} {v : Nat → Int32} {a : Nat → Nat → Int32} {K : Int32 → (Nat → Int32) → (Nat → Nat → Int32) → Prop} (hh : ((p2.toInt ≤ p3.toInt → mT 5 sM_121 103 [(0, .ref 33), (1, .int p1), (2, .int p2), (3, .int 0)] [] (va_up (va_up (va_up (va_up (va_up (va_up v 41 0) 40 0) 39 0) 38 0) 37 0) 42 1) a K) ∧ (p3.toInt < p2.toInt → 0 ≤ p3.toInt ∧ p3.toInt < 48 ∧ 0 ≤ (576 + p3).toInt ∧ (576 + p3).toInt < 624 ∧ mT 5 sM_121 44 [(0, .ref 33), (1, .int p1), (2, .int p2), (3, .int (p3 + 1))] [] v (va_up a 1 (upd (a 1) (576 + p3).toNatClampNeg ((a 0) p3.toNatClampNeg))) K))) : mT 5 sM_121 44 [(0, .ref 33), (1, .int p1), (2, .int p2), (3, .int p3)] [] v a K := by
  intro A B d dc ds P hP
  refine w_mv (pc1 := 45) (st1 := [.int p3]) rfl rfl rfl ?_
  refine w_mv (pc1 := 46) (st1 := [.int p2, .int p3]) rfl rfl rfl ?_
  by_cases h1 : p2.toInt ≤ p3.toInt
  ·
    replace hh := hh.1 h1
    refine w_ige_T (pc1 := 71) rfl rfl (show p2.toInt ≤ p3.toInt from h1) ?_
    refine w_mv (pc1 := 72) (st1 := [.ref 33]) rfl rfl rfl ?_
    refine w_mv (pc1 := 73) (st1 := [.ref 33, .ref 33]) rfl rfl rfl ?_
    refine w_mv (pc1 := 74) (st1 := [.ref 33, .ref 33, .ref 33]) rfl rfl rfl ?_
    refine w_mv (pc1 := 75) (st1 := [.ref 33, .ref 33, .ref 33, .ref 33]) rfl rfl rfl ?_
    refine w_mv (pc1 := 76) (st1 := [.ref 33, .ref 33, .ref 33, .ref 33, .ref 33]) rfl rfl rfl ?_
    refine w_mv (pc1 := 77) (st1 := [.int 0, .ref 33, .ref 33, .ref 33, .ref 33, .ref 33]) rfl rfl rfl ?_
    refine w_mv (pc1 := 78) (st1 := [.int 0, .ref 33, .int 0, .ref 33, .ref 33, .ref 33, .ref 33]) rfl rfl rfl ?_
    refine w_st (pc1 := 81) (st1 := [.int 0, .ref 33, .ref 33, .ref 33, .ref 33]) (hs1 := mH A B (va_up v 41 0) a) (dc1 := 0) (ds1 := 0) (dc2 := dc) (ds2 := ds) rfl rfl rfl rfl rfl ?_
    refine w_mv (pc1 := 82) (st1 := [.int 0, .ref 33, .int 0, .ref 33, .ref 33, .ref 33]) rfl rfl rfl ?_
    refine w_st (pc1 := 85) (st1 := [.int 0, .ref 33, .ref 33, .ref 33]) (hs1 := mH A B (va_up (va_up v 41 0) 40 0) a) (dc1 := 0) (ds1 := 0) (dc2 := dc) (ds2 := ds) rfl rfl rfl rfl rfl ?_
    refine w_mv (pc1 := 86) (st1 := [.int 0, .ref 33, .int 0, .ref 33, .ref 33]) rfl rfl rfl ?_
    refine w_st (pc1 := 89) (st1 := [.int 0, .ref 33, .ref 33]) (hs1 := mH A B (va_up (va_up (va_up v 41 0) 40 0) 39 0) a) (dc1 := 0) (ds1 := 0) (dc2 := dc) (ds2 := ds) rfl rfl rfl rfl rfl ?_
    refine w_mv (pc1 := 90) (st1 := [.int 0, .ref 33, .int 0, .ref 33]) rfl rfl rfl ?_
    refine w_st (pc1 := 93) (st1 := [.int 0, .ref 33]) (hs1 := mH A B (va_up (va_up (va_up (va_up v 41 0) 40 0) 39 0) 38 0) a) (dc1 := 0) (ds1 := 0) (dc2 := dc) (ds2 := ds) rfl rfl rfl rfl rfl ?_
    refine w_st (pc1 := 96) (st1 := []) (hs1 := mH A B (va_up (va_up (va_up (va_up (va_up v 41 0) 40 0) 39 0) 38 0) 37 0) a) (dc1 := 0) (ds1 := 0) (dc2 := dc) (ds2 := ds) rfl rfl rfl rfl rfl ?_
    refine w_mv (pc1 := 97) (st1 := [.ref 33]) rfl rfl rfl ?_
    refine w_mv (pc1 := 98) (st1 := [.int 1, .ref 33]) rfl rfl rfl ?_
    refine w_st (pc1 := 101) (st1 := []) (hs1 := mH A B (va_up (va_up (va_up (va_up (va_up (va_up v 41 0) 40 0) 39 0) 38 0) 37 0) 42 1) a) (dc1 := 0) (ds1 := 0) (dc2 := dc) (ds2 := ds) rfl rfl rfl rfl rfl ?_
    refine w_mv (pc1 := 102) (st1 := [.int 0]) rfl rfl rfl ?_
    refine w_mv (pc1 := 103) (lv1 := [(3, .int 0), (0, .ref 33), (1, .int p1), (2, .int p2)]) (st1 := []) rfl rfl rfl ?_
    refine w_wk (l1 := [(0, .ref 33), (1, .int p1), (2, .int p2), (3, .int 0)]) rfl ⟨rfl, rfl, rfl, rfl, trivial⟩ ?_
    exact hh A B d dc ds P hP
  ·
    replace hh := hh.2 (Int.not_le.mp h1)
    refine w_ige_F (pc1 := 49) rfl (by decide) rfl (show p3.toInt < p2.toInt from (Int.not_le.mp h1)) ?_
    refine w_mv (pc1 := 50) (st1 := [.ref 33]) rfl rfl rfl ?_
    refine w_mv (pc1 := 53) (st1 := [.ref 35]) rfl rfl rfl ?_
    refine w_mv (pc1 := 56) (st1 := [.int 576, .ref 35]) rfl rfl rfl ?_
    refine w_mv (pc1 := 57) (st1 := [.int p3, .int 576, .ref 35]) rfl rfl rfl ?_
    refine w_mv (pc1 := 58) (st1 := [.int (576 + p3), .ref 35]) rfl rfl rfl ?_
    refine w_mv (pc1 := 59) (st1 := [.ref 33, .int (576 + p3), .ref 35]) rfl rfl rfl ?_
    refine w_mv (pc1 := 62) (st1 := [.ref 34, .int (576 + p3), .ref 35]) rfl rfl rfl ?_
    refine w_mv (pc1 := 63) (st1 := [.int p3, .ref 34, .int (576 + p3), .ref 35]) rfl rfl rfl ?_
    obtain ⟨o2a, o2b, hh⟩ := hh
    refine w_ald (x := 34) (t := 0) (A := (48, .inl (a 0))) (v := .int ((a 0) p3.toNatClampNeg)) (pc1 := 64) rfl rfl rfl rfl rfl o2a o2b rfl rfl ?_
    obtain ⟨o3a, o3b, hh⟩ := hh
    refine w_ast (x := 35) (t := 0) (n := 624) (f := (a 1)) (ty := .int) (nw := fun x => x) (pc1 := 65) (hs1 := mH A B v (va_up a 1 (upd (a 1) (576 + p3).toNatClampNeg ((a 0) p3.toNatClampNeg)))) rfl rfl rfl rfl rfl rfl o3a o3b rfl mst_1 ?_
    refine w_mv (pc1 := 68) (lv1 := [(3, .int (p3 + 1)), (0, .ref 33), (1, .int p1), (2, .int p2)]) (st1 := []) rfl rfl rfl ?_
    refine w_mv (pc1 := 44) (st1 := []) rfl rfl rfl ?_
    refine w_wk (l1 := [(0, .ref 33), (1, .int p1), (2, .int p2), (3, .int (p3 + 1))]) rfl ⟨rfl, rfl, rfl, rfl, trivial⟩ ?_
    exact hh A B d dc ds P hP
set_option maxRecDepth 20000 in
set_option maxHeartbeats 4000000 in
theorem r_121_103 {p1 : Int32} {p2 : Int32} {p3 : Int32} {v : Nat → Int32} {a : Nat → Nat → Int32} {K : Int32 → (Nat → Int32) → (Nat → Nat → Int32) → Prop} (hh : ((61 ≤ p3.toInt → mT 5 sM_121 140 [(0, .ref 33), (1, .int p1), (2, .int p2), (3, .int 0)] [] v a K) ∧ (p3.toInt < 61 → 0 ≤ p3.toInt ∧ p3.toInt < 61 ∧ 0 ≤ p3.toInt ∧ p3.toInt < 61 ∧ 0 ≤ (m_rem p3 4).toInt ∧ (m_rem p3 4).toInt < 4 ∧ mT 5 sM_121 103 [(0, .ref 33), (1, .int p1), (2, .int p2), (3, .int (p3 + 1))] [] v (va_up (va_up (va_up a 30 (upd (a 30) p3.toNatClampNeg 0)) 25 (upd (a 25) p3.toNatClampNeg 0)) 28 (upd (a 28) (m_rem p3 4).toNatClampNeg 0)) K))) : mT 5 sM_121 103 [(0, .ref 33), (1, .int p1), (2, .int p2), (3, .int p3)] [] v a K := by
  intro A B d dc ds P hP
  refine w_mv (pc1 := 104) (st1 := [.int p3]) rfl rfl rfl ?_
  refine w_mv (pc1 := 106) (st1 := [.int 61, .int p3]) rfl rfl rfl ?_
  by_cases h1 : 61 ≤ p3.toInt
  ·
    replace hh := hh.1 h1
    refine w_ige_T (pc1 := 138) rfl rfl (show 61 ≤ p3.toInt from h1) ?_
    refine w_mv (pc1 := 139) (st1 := [.int 0]) rfl rfl rfl ?_
    refine w_mv (pc1 := 140) (lv1 := [(3, .int 0), (0, .ref 33), (1, .int p1), (2, .int p2)]) (st1 := []) rfl rfl rfl ?_
    refine w_wk (l1 := [(0, .ref 33), (1, .int p1), (2, .int p2), (3, .int 0)]) rfl ⟨rfl, rfl, rfl, rfl, trivial⟩ ?_
    exact hh A B d dc ds P hP
  ·
    replace hh := hh.2 (Int.not_le.mp h1)
    refine w_ige_F (pc1 := 109) rfl (by decide) rfl (show p3.toInt < 61 from (Int.not_le.mp h1)) ?_
    refine w_mv (pc1 := 110) (st1 := [.ref 33]) rfl rfl rfl ?_
    refine w_mv (pc1 := 113) (st1 := [.ref 57]) rfl rfl rfl ?_
    refine w_mv (pc1 := 114) (st1 := [.int p3, .ref 57]) rfl rfl rfl ?_
    refine w_mv (pc1 := 115) (st1 := [.int 0, .int p3, .ref 57]) rfl rfl rfl ?_
    obtain ⟨o2a, o2b, hh⟩ := hh
    refine w_ast (x := 57) (t := 2) (n := 61) (f := (a 30)) (ty := .boolean) (nw := vp_nar .boolean) (pc1 := 116) (hs1 := mH A B v (va_up a 30 (upd (a 30) p3.toNatClampNeg 0))) rfl rfl rfl rfl rfl rfl o2a o2b rfl mst_30 ?_
    refine w_mv (pc1 := 117) (st1 := [.ref 33]) rfl rfl rfl ?_
    refine w_mv (pc1 := 120) (st1 := [.ref 52]) rfl rfl rfl ?_
    refine w_mv (pc1 := 121) (st1 := [.int p3, .ref 52]) rfl rfl rfl ?_
    refine w_mv (pc1 := 122) (st1 := [.int 0, .int p3, .ref 52]) rfl rfl rfl ?_
    obtain ⟨o3a, o3b, hh⟩ := hh
    refine w_ast (x := 52) (t := 0) (n := 61) (f := (a 25)) (ty := .int) (nw := fun x => x) (pc1 := 123) (hs1 := mH A B v (va_up (va_up a 30 (upd (a 30) p3.toNatClampNeg 0)) 25 (upd (a 25) p3.toNatClampNeg 0))) rfl rfl rfl rfl rfl rfl o3a o3b rfl mst_25 ?_
    refine w_mv (pc1 := 124) (st1 := [.ref 33]) rfl rfl rfl ?_
    refine w_mv (pc1 := 127) (st1 := [.ref 55]) rfl rfl rfl ?_
    refine w_mv (pc1 := 128) (st1 := [.int p3, .ref 55]) rfl rfl rfl ?_
    refine w_mv (pc1 := 129) (st1 := [.int 4, .int p3, .ref 55]) rfl rfl rfl ?_
    refine w_irem (pc1 := 130) rfl (by decide) rfl ?_
    refine w_mv (pc1 := 131) (st1 := [.int 0, .int (m_rem p3 4), .ref 55]) rfl rfl rfl ?_
    obtain ⟨o4a, o4b, hh⟩ := hh
    refine w_ast (x := 55) (t := 0) (n := 4) (f := (a 28)) (ty := .int) (nw := fun x => x) (pc1 := 132) (hs1 := mH A B v (va_up (va_up (va_up a 30 (upd (a 30) p3.toNatClampNeg 0)) 25 (upd (a 25) p3.toNatClampNeg 0)) 28 (upd (a 28) (m_rem p3 4).toNatClampNeg 0))) rfl rfl rfl rfl rfl rfl o4a o4b rfl mst_28 ?_
    refine w_mv (pc1 := 135) (lv1 := [(3, .int (p3 + 1)), (0, .ref 33), (1, .int p1), (2, .int p2)]) (st1 := []) rfl rfl rfl ?_
    refine w_mv (pc1 := 103) (st1 := []) rfl rfl rfl ?_
    refine w_wk (l1 := [(0, .ref 33), (1, .int p1), (2, .int p2), (3, .int (p3 + 1))]) rfl ⟨rfl, rfl, rfl, rfl, trivial⟩ ?_
    exact hh A B d dc ds P hP
set_option maxRecDepth 20000 in
set_option maxHeartbeats 4000000 in
theorem r_121_140 {p1 : Int32} {p2 : Int32} {p3 : Int32} {v : Nat → Int32} {a : Nat → Nat → Int32} {K : Int32 → (Nat → Int32) → (Nat → Nat → Int32) → Prop} (hh : ((26 ≤ p3.toInt → mT 0 sM_122 0 [(0, .ref 33), (1, .int 576)] [] (va_up (va_up v 12 576) 13 (576 + p2)) a (fun _ v2 a2 => mT 5 sM_121 185 [(0, .ref 33), (1, .int p1), (2, .int p2), (3, .int 0)] [] v2 a2 K)) ∧ (p3.toInt < 26 → 0 ≤ p3.toInt ∧ p3.toInt < 26 ∧ mT 5 sM_121 140 [(0, .ref 33), (1, .int p1), (2, .int p2), (3, .int (p3 + 1))] [] v (va_up a 5 (upd (a 5) p3.toNatClampNeg 2147483647)) K))) : mT 5 sM_121 140 [(0, .ref 33), (1, .int p1), (2, .int p2), (3, .int p3)] [] v a K := by
  intro A B d dc ds P hP
  refine w_mv (pc1 := 141) (st1 := [.int p3]) rfl rfl rfl ?_
  refine w_mv (pc1 := 143) (st1 := [.int 26, .int p3]) rfl rfl rfl ?_
  by_cases h1 : 26 ≤ p3.toInt
  ·
    replace hh := hh.1 h1
    refine w_ige_T (pc1 := 160) rfl rfl (show 26 ≤ p3.toInt from h1) ?_
    refine w_mv (pc1 := 161) (st1 := [.ref 33]) rfl rfl rfl ?_
    refine w_mv (pc1 := 164) (st1 := [.int 576, .ref 33]) rfl rfl rfl ?_
    refine w_st (pc1 := 167) (st1 := []) (hs1 := mH A B (va_up v 12 576) a) (dc1 := 0) (ds1 := 0) (dc2 := dc) (ds2 := ds) rfl rfl rfl rfl rfl ?_
    refine w_mv (pc1 := 168) (st1 := [.ref 33]) rfl rfl rfl ?_
    refine w_mv (pc1 := 171) (st1 := [.int 576, .ref 33]) rfl rfl rfl ?_
    refine w_mv (pc1 := 172) (st1 := [.int p2, .int 576, .ref 33]) rfl rfl rfl ?_
    refine w_mv (pc1 := 173) (st1 := [.int (576 + p2), .ref 33]) rfl rfl rfl ?_
    refine w_st (pc1 := 176) (st1 := []) (hs1 := mH A B (va_up (va_up v 12 576) 13 (576 + p2)) a) (dc1 := 0) (ds1 := 0) (dc2 := dc) (ds2 := ds) rfl rfl rfl rfl rfl ?_
    refine w_mv (pc1 := 177) (st1 := [.ref 33]) rfl rfl rfl ?_
    refine w_mv (pc1 := 180) (st1 := [.int 576, .ref 33]) rfl rfl rfl ?_
    refine w_call (M' := sM_122) (vals := [.ref 33, .int 576]) (rest := []) (lv' := [(0, .ref 33), (1, .int 576)]) rfl rfl rfl rfl rfl rfl rfl rfl rfl rfl ?_
    refine hh A B _ dc ds _ (fun r2 v2 a2 hh => ?_)
    show s_kont _ _ _ _ _ _ _ (.inl none) (mH A B v2 a2) dc ds
    refine w_kv (pc1 := 183) rfl ?_
    refine w_mv (pc1 := 184) (st1 := [.int 0]) rfl rfl rfl ?_
    refine w_mv (pc1 := 185) (lv1 := [(3, .int 0), (0, .ref 33), (1, .int p1), (2, .int p2)]) (st1 := []) rfl rfl rfl ?_
    refine w_wk (l1 := [(0, .ref 33), (1, .int p1), (2, .int p2), (3, .int 0)]) rfl ⟨rfl, rfl, rfl, rfl, trivial⟩ ?_
    exact hh A B d dc ds P hP
  ·
    replace hh := hh.2 (Int.not_le.mp h1)
    refine w_ige_F (pc1 := 146) rfl (by decide) rfl (show p3.toInt < 26 from (Int.not_le.mp h1)) ?_
    refine w_mv (pc1 := 147) (st1 := [.ref 33]) rfl rfl rfl ?_
    refine w_mv (pc1 := 150) (st1 := [.ref 39]) rfl rfl rfl ?_
    refine w_mv (pc1 := 151) (st1 := [.int p3, .ref 39]) rfl rfl rfl ?_
    refine w_mv (pc1 := 153) (st1 := [.int 2147483647, .int p3, .ref 39]) rfl rfl rfl ?_
    obtain ⟨o3a, o3b, hh⟩ := hh
    refine w_ast (x := 39) (t := 0) (n := 26) (f := (a 5)) (ty := .int) (nw := fun x => x) (pc1 := 154) (hs1 := mH A B v (va_up a 5 (upd (a 5) p3.toNatClampNeg 2147483647))) rfl rfl rfl rfl rfl rfl o3a o3b rfl mst_5 ?_
    refine w_mv (pc1 := 157) (lv1 := [(3, .int (p3 + 1)), (0, .ref 33), (1, .int p1), (2, .int p2)]) (st1 := []) rfl rfl rfl ?_
    refine w_mv (pc1 := 140) (st1 := []) rfl rfl rfl ?_
    refine w_wk (l1 := [(0, .ref 33), (1, .int p1), (2, .int p2), (3, .int (p3 + 1))]) rfl ⟨rfl, rfl, rfl, rfl, trivial⟩ ?_
    exact hh A B d dc ds P hP
set_option maxRecDepth 20000 in
set_option maxHeartbeats 4000000 in
theorem r_121_185 {p1 : Int32} {p2 : Int32} {p3 : Int32} {v : Nat → Int32} {a : Nat → Nat → Int32} {K : Int32 → (Nat → Int32) → (Nat → Nat → Int32) → Prop} (hh : ((26 ≤ p3.toInt → mT 4 sM_123 0 [(0, .ref 33), (1, .int 1)] [] v a (fun r2 v2 a2 => K r2 v2 a2)) ∧ (p3.toInt < 26 → 0 ≤ p3.toInt ∧ p3.toInt < 26 ∧ 0 ≤ p3.toInt ∧ p3.toInt < 26 ∧ mT 5 sM_121 185 [(0, .ref 33), (1, .int p1), (2, .int p2), (3, .int (p3 + 1))] [] v (va_up a 6 (upd (a 6) p3.toNatClampNeg ((a 5) p3.toNatClampNeg))) K))) : mT 5 sM_121 185 [(0, .ref 33), (1, .int p1), (2, .int p2), (3, .int p3)] [] v a K := by
  intro A B d dc ds P hP
  refine w_mv (pc1 := 186) (st1 := [.int p3]) rfl rfl rfl ?_
  refine w_mv (pc1 := 188) (st1 := [.int 26, .int p3]) rfl rfl rfl ?_
  by_cases h1 : 26 ≤ p3.toInt
  ·
    replace hh := hh.1 h1
    refine w_ige_T (pc1 := 209) rfl rfl (show 26 ≤ p3.toInt from h1) ?_
    refine w_mv (pc1 := 210) (st1 := [.ref 33]) rfl rfl rfl ?_
    refine w_mv (pc1 := 211) (st1 := [.int 1, .ref 33]) rfl rfl rfl ?_
    refine w_call (M' := sM_123) (vals := [.ref 33, .int 1]) (rest := []) (lv' := [(0, .ref 33), (1, .int 1)]) rfl rfl rfl rfl rfl rfl rfl rfl rfl rfl ?_
    refine hh A B _ dc ds _ (fun r2 v2 a2 hh => ?_)
    show s_kont _ _ _ _ _ _ _ (.inl (some (.int r2))) (mH A B v2 a2) dc ds
    refine w_ki (pc1 := 214) rfl ?_
    exact sx_wp.stop rfl rfl rfl (hP r2 _ _ hh)
  ·
    replace hh := hh.2 (Int.not_le.mp h1)
    refine w_ige_F (pc1 := 191) rfl (by decide) rfl (show p3.toInt < 26 from (Int.not_le.mp h1)) ?_
    refine w_mv (pc1 := 192) (st1 := [.ref 33]) rfl rfl rfl ?_
    refine w_mv (pc1 := 195) (st1 := [.ref 40]) rfl rfl rfl ?_
    refine w_mv (pc1 := 196) (st1 := [.int p3, .ref 40]) rfl rfl rfl ?_
    refine w_mv (pc1 := 197) (st1 := [.ref 33, .int p3, .ref 40]) rfl rfl rfl ?_
    refine w_mv (pc1 := 200) (st1 := [.ref 39, .int p3, .ref 40]) rfl rfl rfl ?_
    refine w_mv (pc1 := 201) (st1 := [.int p3, .ref 39, .int p3, .ref 40]) rfl rfl rfl ?_
    obtain ⟨o3a, o3b, hh⟩ := hh
    refine w_ald (x := 39) (t := 0) (A := (26, .inl (a 5))) (v := .int ((a 5) p3.toNatClampNeg)) (pc1 := 202) rfl rfl rfl rfl rfl o3a o3b rfl rfl ?_
    obtain ⟨o4a, o4b, hh⟩ := hh
    refine w_ast (x := 40) (t := 0) (n := 26) (f := (a 6)) (ty := .int) (nw := fun x => x) (pc1 := 203) (hs1 := mH A B v (va_up a 6 (upd (a 6) p3.toNatClampNeg ((a 5) p3.toNatClampNeg)))) rfl rfl rfl rfl rfl rfl o4a o4b rfl mst_6 ?_
    refine w_mv (pc1 := 206) (lv1 := [(3, .int (p3 + 1)), (0, .ref 33), (1, .int p1), (2, .int p2)]) (st1 := []) rfl rfl rfl ?_
    refine w_mv (pc1 := 185) (st1 := []) rfl rfl rfl ?_
    refine w_wk (l1 := [(0, .ref 33), (1, .int p1), (2, .int p2), (3, .int (p3 + 1))]) rfl ⟨rfl, rfl, rfl, rfl, trivial⟩ ?_
    exact hh A B d dc ds P hP
set_option maxRecDepth 20000 in
set_option maxHeartbeats 4000000 in
theorem r_122_0 {p1 : Int32} {v : Nat → Int32} {a : Nat → Nat → Int32} {K : Int32 → (Nat → Int32) → (Nat → Nat → Int32) → Prop} (hh : mT 0 sM_122 2 [(0, .ref 33), (1, .int p1), (2, .int 0)] [] v a K) : mT 0 sM_122 0 [(0, .ref 33), (1, .int p1)] [] v a K := by
  intro A B d dc ds P hP
  refine w_mv (pc1 := 1) (st1 := [.int 0]) rfl rfl rfl ?_
  refine w_mv (pc1 := 2) (lv1 := [(2, .int 0), (0, .ref 33), (1, .int p1)]) (st1 := []) rfl rfl rfl ?_
  refine w_wk (l1 := [(0, .ref 33), (1, .int p1), (2, .int 0)]) rfl ⟨rfl, rfl, rfl, trivial⟩ ?_
  exact hh A B d dc ds P hP
set_option maxRecDepth 20000 in
set_option maxHeartbeats 4000000 in
theorem r_122_2 {p1 : Int32} {p2 : Int32} {v : Nat → Int32} {a : Nat → Nat → Int32} {K : Int32 → (Nat → Int32) → (Nat → Nat → Int32) → Prop} (hh : ((26 ≤ p2.toInt → K 0 v a) ∧ (p2.toInt < 26 → mT 0 sM_122 10 [(0, .ref 33), (1, .int p1), (2, .int p2), (3, .int p1)] [] v a K))) : mT 0 sM_122 2 [(0, .ref 33), (1, .int p1), (2, .int p2)] [] v a K := by
  intro A B d dc ds P hP
  refine w_mv (pc1 := 3) (st1 := [.int p2]) rfl rfl rfl ?_
  refine w_mv (pc1 := 5) (st1 := [.int 26, .int p2]) rfl rfl rfl ?_
  by_cases h1 : 26 ≤ p2.toInt
  ·
    replace hh := hh.1 h1
    refine w_ige_T (pc1 := 90) rfl rfl (show 26 ≤ p2.toInt from h1) ?_
    exact sx_wp.stop rfl rfl rfl (hP 0 _ _ hh)
  ·
    replace hh := hh.2 (Int.not_le.mp h1)
    refine w_ige_F (pc1 := 8) rfl (by decide) rfl (show p2.toInt < 26 from (Int.not_le.mp h1)) ?_
    refine w_mv (pc1 := 9) (st1 := [.int p1]) rfl rfl rfl ?_
    refine w_mv (pc1 := 10) (lv1 := [(3, .int p1), (0, .ref 33), (1, .int p1), (2, .int p2)]) (st1 := []) rfl rfl rfl ?_
    refine w_wk (l1 := [(0, .ref 33), (1, .int p1), (2, .int p2), (3, .int p1)]) rfl ⟨rfl, rfl, rfl, rfl, trivial⟩ ?_
    exact hh A B d dc ds P hP
set_option maxRecDepth 20000 in
set_option maxHeartbeats 4000000 in
theorem r_122_10 {p1 : Int32} {p2 : Int32} {p3 : Int32} {v : Nat → Int32} {a : Nat → Nat → Int32} {K : Int32 → (Nat → Int32) → (Nat → Nat → Int32) → Prop} (hh : (((v 13).toInt ≤ p3.toInt → mT 0 sM_122 2 [(0, .ref 33), (1, .int p1), (2, .int (p2 + 1))] [] v a K) ∧ (p3.toInt < (v 13).toInt → 0 ≤ p2.toInt ∧ p2.toInt < 26 ∧ ((((a 5) p2.toNatClampNeg).toInt ≠ 2147483647 → mT 0 sM_122 2 [(0, .ref 33), (1, .int p1), (2, .int (p2 + 1))] [] v a K) ∧ (((a 5) p2.toNatClampNeg).toInt = 2147483647 → 0 ≤ p3.toInt ∧ p3.toInt < 624 ∧ ((((a 1) p3.toNatClampNeg).toInt = (65 + p2).toInt → 0 ≤ p2.toInt ∧ p2.toInt < 26 ∧ 0 ≤ (v 38).toInt ∧ (v 38).toInt < 12000 ∧ mT 0 sM_122 10 [(0, .ref 33), (1, .int p1), (2, .int p2), (3, .int (p3 + 1))] [] (va_up v 38 (v 38 + 1)) (va_up (va_up a 5 (upd (a 5) p2.toNatClampNeg ((-1) - v 38))) 17 (upd (a 17) (v 38).toNatClampNeg 2147483647)) K) ∧ (((a 1) p3.toNatClampNeg).toInt ≠ (65 + p2).toInt → mT 0 sM_122 10 [(0, .ref 33), (1, .int p1), (2, .int p2), (3, .int (p3 + 1))] [] v a K))))))) : mT 0 sM_122 10 [(0, .ref 33), (1, .int p1), (2, .int p2), (3, .int p3)] [] v a K := by
  intro A B d dc ds P hP
  refine w_mv (pc1 := 11) (st1 := [.int p3]) rfl rfl rfl ?_
  refine w_mv (pc1 := 12) (st1 := [.ref 33, .int p3]) rfl rfl rfl ?_
  refine w_mv (pc1 := 15) (st1 := [.int (v 13), .int p3]) rfl rfl rfl ?_
  by_cases h1 : (v 13).toInt ≤ p3.toInt
  ·
    replace hh := hh.1 h1
    refine w_ige_T (pc1 := 84) rfl rfl (show (v 13).toInt ≤ p3.toInt from h1) ?_
    refine w_mv (pc1 := 87) (lv1 := [(2, .int (p2 + 1)), (0, .ref 33), (1, .int p1), (3, .int p3)]) (st1 := []) rfl rfl rfl ?_
    refine w_mv (pc1 := 2) (st1 := []) rfl rfl rfl ?_
    refine w_wk (l1 := [(0, .ref 33), (1, .int p1), (2, .int (p2 + 1))]) rfl ⟨rfl, rfl, rfl, trivial⟩ ?_
    exact hh A B d dc ds P hP
  ·
    replace hh := hh.2 (Int.not_le.mp h1)
    refine w_ige_F (pc1 := 18) rfl (by decide) rfl (show p3.toInt < (v 13).toInt from (Int.not_le.mp h1)) ?_
    refine w_mv (pc1 := 19) (st1 := [.ref 33]) rfl rfl rfl ?_
    refine w_mv (pc1 := 22) (st1 := [.ref 39]) rfl rfl rfl ?_
    refine w_mv (pc1 := 23) (st1 := [.int p2, .ref 39]) rfl rfl rfl ?_
    obtain ⟨o2a, o2b, hh⟩ := hh
    refine w_ald (x := 39) (t := 0) (A := (26, .inl (a 5))) (v := .int ((a 5) p2.toNatClampNeg)) (pc1 := 24) rfl rfl rfl rfl rfl o2a o2b rfl rfl ?_
    refine w_mv (pc1 := 26) (st1 := [.int 2147483647, .int ((a 5) p2.toNatClampNeg)]) rfl rfl rfl ?_
    by_cases h3 : ((a 5) p2.toNatClampNeg).toInt = 2147483647
    ·
      replace hh := hh.2 h3
      refine w_ine_F (pc1 := 29) rfl (by decide) rfl (show ((a 5) p2.toNatClampNeg).toInt = 2147483647 from h3) ?_
      refine w_mv (pc1 := 30) (st1 := [.ref 33]) rfl rfl rfl ?_
      refine w_mv (pc1 := 33) (st1 := [.ref 35]) rfl rfl rfl ?_
      refine w_mv (pc1 := 34) (st1 := [.int p3, .ref 35]) rfl rfl rfl ?_
      obtain ⟨o4a, o4b, hh⟩ := hh
      refine w_ald (x := 35) (t := 0) (A := (624, .inl (a 1))) (v := .int ((a 1) p3.toNatClampNeg)) (pc1 := 35) rfl rfl rfl rfl rfl o4a o4b rfl rfl ?_
      refine w_mv (pc1 := 37) (st1 := [.int 65, .int ((a 1) p3.toNatClampNeg)]) rfl rfl rfl ?_
      refine w_mv (pc1 := 38) (st1 := [.int p2, .int 65, .int ((a 1) p3.toNatClampNeg)]) rfl rfl rfl ?_
      refine w_mv (pc1 := 39) (st1 := [.int (65 + p2), .int ((a 1) p3.toNatClampNeg)]) rfl rfl rfl ?_
      by_cases h5 : ((a 1) p3.toNatClampNeg).toInt = (65 + p2).toInt
      ·
        replace hh := hh.1 h5
        refine w_ieq_T (pc1 := 45) rfl rfl (show ((a 1) p3.toNatClampNeg).toInt = (65 + p2).toInt from h5) ?_
        refine w_mv (pc1 := 46) (st1 := [.ref 33]) rfl rfl rfl ?_
        refine w_mv (pc1 := 49) (st1 := [.ref 39]) rfl rfl rfl ?_
        refine w_mv (pc1 := 50) (st1 := [.int p2, .ref 39]) rfl rfl rfl ?_
        refine w_mv (pc1 := 51) (st1 := [.int (-1), .int p2, .ref 39]) rfl rfl rfl ?_
        refine w_mv (pc1 := 52) (st1 := [.ref 33, .int (-1), .int p2, .ref 39]) rfl rfl rfl ?_
        refine w_mv (pc1 := 55) (st1 := [.int (v 38), .int (-1), .int p2, .ref 39]) rfl rfl rfl ?_
        refine w_mv (pc1 := 56) (st1 := [.int ((-1) - v 38), .int p2, .ref 39]) rfl rfl rfl ?_
        obtain ⟨o6a, o6b, hh⟩ := hh
        refine w_ast (x := 39) (t := 0) (n := 26) (f := (a 5)) (ty := .int) (nw := fun x => x) (pc1 := 57) (hs1 := mH A B v (va_up a 5 (upd (a 5) p2.toNatClampNeg ((-1) - v 38)))) rfl rfl rfl rfl rfl rfl o6a o6b rfl mst_5 ?_
        refine w_mv (pc1 := 58) (st1 := [.ref 33]) rfl rfl rfl ?_
        refine w_mv (pc1 := 61) (st1 := [.ref 44]) rfl rfl rfl ?_
        refine w_mv (pc1 := 62) (st1 := [.ref 33, .ref 44]) rfl rfl rfl ?_
        refine w_mv (pc1 := 65) (st1 := [.int (v 38), .ref 44]) rfl rfl rfl ?_
        refine w_mv (pc1 := 67) (st1 := [.int 2147483647, .int (v 38), .ref 44]) rfl rfl rfl ?_
        obtain ⟨o7a, o7b, hh⟩ := hh
        refine w_ast (x := 44) (t := 0) (n := 12000) (f := (a 17)) (ty := .int) (nw := fun x => x) (pc1 := 68) (hs1 := mH A B v (va_up (va_up a 5 (upd (a 5) p2.toNatClampNeg ((-1) - v 38))) 17 (upd (a 17) (v 38).toNatClampNeg 2147483647))) rfl rfl rfl rfl rfl rfl o7a o7b rfl mst_17 ?_
        refine w_mv (pc1 := 69) (st1 := [.ref 33]) rfl rfl rfl ?_
        refine w_mv (pc1 := 70) (st1 := [.ref 33, .ref 33]) rfl rfl rfl ?_
        refine w_mv (pc1 := 73) (st1 := [.int (v 38), .ref 33]) rfl rfl rfl ?_
        refine w_mv (pc1 := 74) (st1 := [.int 1, .int (v 38), .ref 33]) rfl rfl rfl ?_
        refine w_mv (pc1 := 75) (st1 := [.int (v 38 + 1), .ref 33]) rfl rfl rfl ?_
        refine w_st (pc1 := 78) (st1 := []) (hs1 := mH A B (va_up v 38 (v 38 + 1)) (va_up (va_up a 5 (upd (a 5) p2.toNatClampNeg ((-1) - v 38))) 17 (upd (a 17) (v 38).toNatClampNeg 2147483647))) (dc1 := 0) (ds1 := 0) (dc2 := dc) (ds2 := ds) rfl rfl rfl rfl rfl ?_
        refine w_mv (pc1 := 81) (lv1 := [(3, .int (p3 + 1)), (0, .ref 33), (1, .int p1), (2, .int p2)]) (st1 := []) rfl rfl rfl ?_
        refine w_mv (pc1 := 10) (st1 := []) rfl rfl rfl ?_
        refine w_wk (l1 := [(0, .ref 33), (1, .int p1), (2, .int p2), (3, .int (p3 + 1))]) rfl ⟨rfl, rfl, rfl, rfl, trivial⟩ ?_
        exact hh A B d dc ds P hP
      ·
        replace hh := hh.2 h5
        refine w_ieq_F (pc1 := 42) rfl (by decide) rfl (show ((a 1) p3.toNatClampNeg).toInt ≠ (65 + p2).toInt from h5) ?_
        refine w_mv (pc1 := 78) (st1 := []) rfl rfl rfl ?_
        refine w_mv (pc1 := 81) (lv1 := [(3, .int (p3 + 1)), (0, .ref 33), (1, .int p1), (2, .int p2)]) (st1 := []) rfl rfl rfl ?_
        refine w_mv (pc1 := 10) (st1 := []) rfl rfl rfl ?_
        refine w_wk (l1 := [(0, .ref 33), (1, .int p1), (2, .int p2), (3, .int (p3 + 1))]) rfl ⟨rfl, rfl, rfl, rfl, trivial⟩ ?_
        exact hh A B d dc ds P hP
    ·
      replace hh := hh.1 h3
      refine w_ine_T (pc1 := 84) rfl rfl (show ((a 5) p2.toNatClampNeg).toInt ≠ 2147483647 from h3) ?_
      refine w_mv (pc1 := 87) (lv1 := [(2, .int (p2 + 1)), (0, .ref 33), (1, .int p1), (3, .int p3)]) (st1 := []) rfl rfl rfl ?_
      refine w_mv (pc1 := 2) (st1 := []) rfl rfl rfl ?_
      refine w_wk (l1 := [(0, .ref 33), (1, .int p1), (2, .int (p2 + 1))]) rfl ⟨rfl, rfl, rfl, trivial⟩ ?_
      exact hh A B d dc ds P hP
set_option maxRecDepth 20000 in
set_option maxHeartbeats 4000000 in
theorem r_123_0 {p1 : Int32} {v : Nat → Int32} {a : Nat → Nat → Int32} {K : Int32 → (Nat → Int32) → (Nat → Nat → Int32) → Prop} (hh : mT 4 sM_123 2 [(0, .ref 33), (1, .int p1), (2, .int 0)] [] v a K) : mT 4 sM_123 0 [(0, .ref 33), (1, .int p1)] [] v a K := by
  intro A B d dc ds P hP
  refine w_mv (pc1 := 1) (st1 := [.int 0]) rfl rfl rfl ?_
  refine w_mv (pc1 := 2) (lv1 := [(2, .int 0), (0, .ref 33), (1, .int p1)]) (st1 := []) rfl rfl rfl ?_
  refine w_wk (l1 := [(0, .ref 33), (1, .int p1), (2, .int 0)]) rfl ⟨rfl, rfl, rfl, trivial⟩ ?_
  exact hh A B d dc ds P hP
set_option maxRecDepth 20000 in
set_option maxHeartbeats 4000000 in
theorem r_123_2 {p1 : Int32} {p2 : Int32} {v : Nat → Int32} {a : Nat → Nat → Int32} {K : Int32 → (Nat → Int32) → (Nat → Nat → Int32) → Prop} (hh : (((v 13).toInt ≤ (v 12).toInt → K p2 v a) ∧ ((v 12).toInt < (v 13).toInt → (((v 11).toInt ≠ 0 → K p2 v a) ∧ ((v 11).toInt = 0 → mT 3 sM_124 0 [(0, .ref 33)] [] v a (fun r3 v3 a3 => 0 ≤ (v3 12).toInt ∧ (v3 13).toInt ≤ 624 ∧ (((m_at v3 a3 (v3 12)).toInt ≠ 35 → (((m_at v3 a3 (v3 12)).toInt ≠ 61 → (((m_at v3 a3 (v3 12)).toInt ≠ 94 → mT 1 sM_130 0 [(0, .ref 33), (1, .int 0), (2, .int p1), (3, .int r3), (4, .int 0), (5, .int 0), (6, .int 0)] [] v3 a3 (fun _ v16 a16 => mT 4 sM_123 181 [(0, .ref 33), (1, .int p1), (2, .int p2)] [] v16 a16 K)) ∧ ((m_at v3 a3 (v3 12)).toInt = 94 → 0 ≤ (v3 12 + 1).toInt ∧ (v3 13).toInt ≤ 624 ∧ mT 1 sM_130 0 [(0, .ref 33), (1, .int 0), (2, .int ((m_at v3 a3 (v3 12 + 1)) - 48)), (3, .int r3), (4, .int 0), (5, .int 0), (6, .int 0)] [] v3 a3 (fun _ v15 a15 => mT 4 sM_123 181 [(0, .ref 33), (1, .int p1), (2, .int p2)] [] (va_up v15 12 (v15 12 + 2)) a15 K)))) ∧ ((m_at v3 a3 (v3 12)).toInt = 61 → mT 3 sM_124 0 [(0, .ref 33)] [] (va_up v3 12 (v3 12 + 1)) a3 (fun r11 v11 a11 => mT 1 sM_130 0 [(0, .ref 33), (1, .int 1), (2, .int p1), (3, .int r3), (4, .int r11), (5, .int 0), (6, .int 0)] [] v11 a11 (fun _ v12 a12 => mT 4 sM_123 181 [(0, .ref 33), (1, .int p1), (2, .int p2)] [] v12 a12 K))))) ∧ ((m_at v3 a3 (v3 12)).toInt = 35 → mT 3 sM_124 0 [(0, .ref 33)] [] (va_up v3 12 (v3 12 + 1)) a3 (fun r6 v6 a6 => 0 ≤ (v6 12).toInt ∧ (v6 13).toInt ≤ 624 ∧ mT 3 sM_124 0 [(0, .ref 33)] [] (va_up v6 12 (v6 12 + 1)) a6 (fun r8 v8 a8 => mT 1 sM_130 0 [(0, .ref 33), (1, .int 2), (2, .int p1), (3, .int r3), (4, .int r6), (5, .int r8), (6, .int (m_at v6 a6 (v6 12)))] [] v8 a8 (fun _ v9 a9 => mT 4 sM_123 181 [(0, .ref 33), (1, .int p1), (2, .int p2)] [] v9 a9 K))))))))))) : mT 4 sM_123 2 [(0, .ref 33), (1, .int p1), (2, .int p2)] [] v a K := by
  intro A B d dc ds P hP
  refine w_mv (pc1 := 3) (st1 := [.ref 33]) rfl rfl rfl ?_
  refine w_mv (pc1 := 6) (st1 := [.int (v 12)]) rfl rfl rfl ?_
  refine w_mv (pc1 := 7) (st1 := [.ref 33, .int (v 12)]) rfl rfl rfl ?_
  refine w_mv (pc1 := 10) (st1 := [.int (v 13), .int (v 12)]) rfl rfl rfl ?_
  by_cases h1 : (v 13).toInt ≤ (v 12).toInt
  ·
    replace hh := hh.1 h1
    refine w_ige_T (pc1 := 197) rfl rfl (show (v 13).toInt ≤ (v 12).toInt from h1) ?_
    refine w_mv (pc1 := 198) (st1 := [.int p2]) rfl rfl rfl ?_
    exact sx_wp.stop rfl rfl rfl (hP p2 _ _ hh)
  ·
    replace hh := hh.2 (Int.not_le.mp h1)
    refine w_ige_F (pc1 := 13) rfl (by decide) rfl (show (v 12).toInt < (v 13).toInt from (Int.not_le.mp h1)) ?_
    refine w_mv (pc1 := 14) (st1 := [.ref 33]) rfl rfl rfl ?_
    refine w_mv (pc1 := 17) (st1 := [.int (v 11)]) rfl rfl rfl ?_
    by_cases h2 : (v 11).toInt = 0
    ·
      replace hh := hh.2 h2
      refine w_zne_F (pc1 := 20) rfl (by decide) rfl (show (v 11).toInt = 0 from h2) ?_
      refine w_mv (pc1 := 21) (st1 := [.ref 33]) rfl rfl rfl ?_
      refine w_call (M' := sM_124) (vals := [.ref 33]) (rest := []) (lv' := [(0, .ref 33)]) rfl rfl rfl rfl rfl rfl rfl rfl rfl rfl ?_
      refine hh A B _ dc ds _ (fun r3 v3 a3 hh => ?_)
      show s_kont _ _ _ _ _ _ _ (.inl (some (.int r3))) (mH A B v3 a3) dc ds
      refine w_ki (pc1 := 24) rfl ?_
      refine w_mv (pc1 := 25) (lv1 := [(3, .int r3), (0, .ref 33), (1, .int p1), (2, .int p2)]) (st1 := []) rfl rfl rfl ?_
      refine w_mv (pc1 := 26) (st1 := [.ref 33]) rfl rfl rfl ?_
      refine w_mv (pc1 := 27) (st1 := [.ref 33, .ref 33]) rfl rfl rfl ?_
      refine w_mv (pc1 := 30) (st1 := [.int (v3 12), .ref 33]) rfl rfl rfl ?_
      refine w_call (M' := sM_125) (vals := [.ref 33, .int (v3 12)]) (rest := []) (lv' := [(0, .ref 33), (1, .int (v3 12))]) rfl rfl rfl rfl rfl rfl rfl rfl rfl rfl ?_
      obtain ⟨o4a, o4b, hh⟩ := hh
      refine m_at_ o4a o4b ?_
      refine w_ki (pc1 := 33) rfl ?_
      refine w_mv (pc1 := 35) (lv1 := [(4, .int (m_at v3 a3 (v3 12))), (3, .int r3), (0, .ref 33), (1, .int p1), (2, .int p2)]) (st1 := []) rfl rfl rfl ?_
      refine w_mv (pc1 := 37) (st1 := [.int (m_at v3 a3 (v3 12))]) rfl rfl rfl ?_
      refine w_mv (pc1 := 39) (st1 := [.int 35, .int (m_at v3 a3 (v3 12))]) rfl rfl rfl ?_
      by_cases h5 : (m_at v3 a3 (v3 12)).toInt = 35
      ·
        replace hh := hh.2 h5
        refine w_ine_F (pc1 := 42) rfl (by decide) rfl (show (m_at v3 a3 (v3 12)).toInt = 35 from h5) ?_
        refine w_mv (pc1 := 43) (st1 := [.ref 33]) rfl rfl rfl ?_
        refine w_mv (pc1 := 44) (st1 := [.ref 33, .ref 33]) rfl rfl rfl ?_
        refine w_mv (pc1 := 47) (st1 := [.int (v3 12), .ref 33]) rfl rfl rfl ?_
        refine w_mv (pc1 := 48) (st1 := [.int 1, .int (v3 12), .ref 33]) rfl rfl rfl ?_
        refine w_mv (pc1 := 49) (st1 := [.int (v3 12 + 1), .ref 33]) rfl rfl rfl ?_
        refine w_st (pc1 := 52) (st1 := []) (hs1 := mH A B (va_up v3 12 (v3 12 + 1)) a3) (dc1 := 0) (ds1 := 0) (dc2 := dc) (ds2 := ds) rfl rfl rfl rfl rfl ?_
        refine w_mv (pc1 := 53) (st1 := [.ref 33]) rfl rfl rfl ?_
        refine w_call (M' := sM_124) (vals := [.ref 33]) (rest := []) (lv' := [(0, .ref 33)]) rfl rfl rfl rfl rfl rfl rfl rfl rfl rfl ?_
        refine hh A B _ dc ds _ (fun r6 v6 a6 hh => ?_)
        show s_kont _ _ _ _ _ _ _ (.inl (some (.int r6))) (mH A B v6 a6) dc ds
        refine w_ki (pc1 := 56) rfl ?_
        refine w_mv (pc1 := 58) (lv1 := [(5, .int r6), (4, .int (m_at v3 a3 (v3 12))), (3, .int r3), (0, .ref 33), (1, .int p1), (2, .int p2)]) (st1 := []) rfl rfl rfl ?_
        refine w_mv (pc1 := 59) (st1 := [.ref 33]) rfl rfl rfl ?_
        refine w_mv (pc1 := 60) (st1 := [.ref 33, .ref 33]) rfl rfl rfl ?_
        refine w_mv (pc1 := 63) (st1 := [.int (v6 12), .ref 33]) rfl rfl rfl ?_
        refine w_call (M' := sM_125) (vals := [.ref 33, .int (v6 12)]) (rest := []) (lv' := [(0, .ref 33), (1, .int (v6 12))]) rfl rfl rfl rfl rfl rfl rfl rfl rfl rfl ?_
        obtain ⟨o7a, o7b, hh⟩ := hh
        refine m_at_ o7a o7b ?_
        refine w_ki (pc1 := 66) rfl ?_
        refine w_mv (pc1 := 68) (lv1 := [(6, .int (m_at v6 a6 (v6 12))), (5, .int r6), (4, .int (m_at v3 a3 (v3 12))), (3, .int r3), (0, .ref 33), (1, .int p1), (2, .int p2)]) (st1 := []) rfl rfl rfl ?_
        refine w_mv (pc1 := 69) (st1 := [.ref 33]) rfl rfl rfl ?_
        refine w_mv (pc1 := 70) (st1 := [.ref 33, .ref 33]) rfl rfl rfl ?_
        refine w_mv (pc1 := 73) (st1 := [.int (v6 12), .ref 33]) rfl rfl rfl ?_
        refine w_mv (pc1 := 74) (st1 := [.int 1, .int (v6 12), .ref 33]) rfl rfl rfl ?_
        refine w_mv (pc1 := 75) (st1 := [.int (v6 12 + 1), .ref 33]) rfl rfl rfl ?_
        refine w_st (pc1 := 78) (st1 := []) (hs1 := mH A B (va_up v6 12 (v6 12 + 1)) a6) (dc1 := 0) (ds1 := 0) (dc2 := dc) (ds2 := ds) rfl rfl rfl rfl rfl ?_
        refine w_mv (pc1 := 79) (st1 := [.ref 33]) rfl rfl rfl ?_
        refine w_mv (pc1 := 80) (st1 := [.int 2, .ref 33]) rfl rfl rfl ?_
        refine w_mv (pc1 := 81) (st1 := [.int p1, .int 2, .ref 33]) rfl rfl rfl ?_
        refine w_mv (pc1 := 82) (st1 := [.int r3, .int p1, .int 2, .ref 33]) rfl rfl rfl ?_
        refine w_mv (pc1 := 84) (st1 := [.int r6, .int r3, .int p1, .int 2, .ref 33]) rfl rfl rfl ?_
        refine w_mv (pc1 := 85) (st1 := [.ref 33, .int r6, .int r3, .int p1, .int 2, .ref 33]) rfl rfl rfl ?_
        refine w_call (M' := sM_124) (vals := [.ref 33]) (rest := [.int r6, .int r3, .int p1, .int 2, .ref 33]) (lv' := [(0, .ref 33)]) rfl rfl rfl rfl rfl rfl rfl rfl rfl rfl ?_
        refine hh A B _ dc ds _ (fun r8 v8 a8 hh => ?_)
        show s_kont _ _ _ _ _ _ _ (.inl (some (.int r8))) (mH A B v8 a8) dc ds
        refine w_ki (pc1 := 88) rfl ?_
        refine w_mv (pc1 := 90) (st1 := [.int (m_at v6 a6 (v6 12)), .int r8, .int r6, .int r3, .int p1, .int 2, .ref 33]) rfl rfl rfl ?_
        refine w_call (M' := sM_130) (vals := [.ref 33, .int 2, .int p1, .int r3, .int r6, .int r8, .int (m_at v6 a6 (v6 12))]) (rest := []) (lv' := [(0, .ref 33), (1, .int 2), (2, .int p1), (3, .int r3), (4, .int r6), (5, .int r8), (6, .int (m_at v6 a6 (v6 12)))]) rfl rfl rfl rfl rfl rfl rfl rfl rfl rfl ?_
        refine hh A B _ dc ds _ (fun r9 v9 a9 hh => ?_)
        show s_kont _ _ _ _ _ _ _ (.inl none) (mH A B v9 a9) dc ds
        refine w_kv (pc1 := 93) rfl ?_
        refine w_mv (pc1 := 181) (st1 := []) rfl rfl rfl ?_
        refine w_wk (l1 := [(0, .ref 33), (1, .int p1), (2, .int p2)]) rfl ⟨rfl, rfl, rfl, trivial⟩ ?_
        exact hh A B d dc ds P hP
      ·
        replace hh := hh.1 h5
        refine w_ine_T (pc1 := 96) rfl rfl (show (m_at v3 a3 (v3 12)).toInt ≠ 35 from h5) ?_
        refine w_mv (pc1 := 98) (st1 := [.int (m_at v3 a3 (v3 12))]) rfl rfl rfl ?_
        refine w_mv (pc1 := 100) (st1 := [.int 61, .int (m_at v3 a3 (v3 12))]) rfl rfl rfl ?_
        by_cases h10 : (m_at v3 a3 (v3 12)).toInt = 61
        ·
          replace hh := hh.2 h10
          refine w_ine_F (pc1 := 103) rfl (by decide) rfl (show (m_at v3 a3 (v3 12)).toInt = 61 from h10) ?_
          refine w_mv (pc1 := 104) (st1 := [.ref 33]) rfl rfl rfl ?_
          refine w_mv (pc1 := 105) (st1 := [.ref 33, .ref 33]) rfl rfl rfl ?_
          refine w_mv (pc1 := 108) (st1 := [.int (v3 12), .ref 33]) rfl rfl rfl ?_
          refine w_mv (pc1 := 109) (st1 := [.int 1, .int (v3 12), .ref 33]) rfl rfl rfl ?_
          refine w_mv (pc1 := 110) (st1 := [.int (v3 12 + 1), .ref 33]) rfl rfl rfl ?_
          refine w_st (pc1 := 113) (st1 := []) (hs1 := mH A B (va_up v3 12 (v3 12 + 1)) a3) (dc1 := 0) (ds1 := 0) (dc2 := dc) (ds2 := ds) rfl rfl rfl rfl rfl ?_
          refine w_mv (pc1 := 114) (st1 := [.ref 33]) rfl rfl rfl ?_
          refine w_mv (pc1 := 115) (st1 := [.int 1, .ref 33]) rfl rfl rfl ?_
          refine w_mv (pc1 := 116) (st1 := [.int p1, .int 1, .ref 33]) rfl rfl rfl ?_
          refine w_mv (pc1 := 117) (st1 := [.int r3, .int p1, .int 1, .ref 33]) rfl rfl rfl ?_
          refine w_mv (pc1 := 118) (st1 := [.ref 33, .int r3, .int p1, .int 1, .ref 33]) rfl rfl rfl ?_
          refine w_call (M' := sM_124) (vals := [.ref 33]) (rest := [.int r3, .int p1, .int 1, .ref 33]) (lv' := [(0, .ref 33)]) rfl rfl rfl rfl rfl rfl rfl rfl rfl rfl ?_
          refine hh A B _ dc ds _ (fun r11 v11 a11 hh => ?_)
          show s_kont _ _ _ _ _ _ _ (.inl (some (.int r11))) (mH A B v11 a11) dc ds
          refine w_ki (pc1 := 121) rfl ?_
          refine w_mv (pc1 := 122) (st1 := [.int 0, .int r11, .int r3, .int p1, .int 1, .ref 33]) rfl rfl rfl ?_
          refine w_mv (pc1 := 123) (st1 := [.int 0, .int 0, .int r11, .int r3, .int p1, .int 1, .ref 33]) rfl rfl rfl ?_
          refine w_call (M' := sM_130) (vals := [.ref 33, .int 1, .int p1, .int r3, .int r11, .int 0, .int 0]) (rest := []) (lv' := [(0, .ref 33), (1, .int 1), (2, .int p1), (3, .int r3), (4, .int r11), (5, .int 0), (6, .int 0)]) rfl rfl rfl rfl rfl rfl rfl rfl rfl rfl ?_
          refine hh A B _ dc ds _ (fun r12 v12 a12 hh => ?_)
          show s_kont _ _ _ _ _ _ _ (.inl none) (mH A B v12 a12) dc ds
          refine w_kv (pc1 := 126) rfl ?_
          refine w_mv (pc1 := 181) (st1 := []) rfl rfl rfl ?_
          refine w_wk (l1 := [(0, .ref 33), (1, .int p1), (2, .int p2)]) rfl ⟨rfl, rfl, rfl, trivial⟩ ?_
          exact hh A B d dc ds P hP
        ·
          replace hh := hh.1 h10
          refine w_ine_T (pc1 := 129) rfl rfl (show (m_at v3 a3 (v3 12)).toInt ≠ 61 from h10) ?_
          refine w_mv (pc1 := 131) (st1 := [.int (m_at v3 a3 (v3 12))]) rfl rfl rfl ?_
          refine w_mv (pc1 := 133) (st1 := [.int 94, .int (m_at v3 a3 (v3 12))]) rfl rfl rfl ?_
          by_cases h13 : (m_at v3 a3 (v3 12)).toInt = 94
          ·
            replace hh := hh.2 h13
            refine w_ine_F (pc1 := 136) rfl (by decide) rfl (show (m_at v3 a3 (v3 12)).toInt = 94 from h13) ?_
            refine w_mv (pc1 := 137) (st1 := [.ref 33]) rfl rfl rfl ?_
            refine w_mv (pc1 := 138) (st1 := [.int 0, .ref 33]) rfl rfl rfl ?_
            refine w_mv (pc1 := 139) (st1 := [.ref 33, .int 0, .ref 33]) rfl rfl rfl ?_
            refine w_mv (pc1 := 140) (st1 := [.ref 33, .ref 33, .int 0, .ref 33]) rfl rfl rfl ?_
            refine w_mv (pc1 := 143) (st1 := [.int (v3 12), .ref 33, .int 0, .ref 33]) rfl rfl rfl ?_
            refine w_mv (pc1 := 144) (st1 := [.int 1, .int (v3 12), .ref 33, .int 0, .ref 33]) rfl rfl rfl ?_
            refine w_mv (pc1 := 145) (st1 := [.int (v3 12 + 1), .ref 33, .int 0, .ref 33]) rfl rfl rfl ?_
            refine w_call (M' := sM_125) (vals := [.ref 33, .int (v3 12 + 1)]) (rest := [.int 0, .ref 33]) (lv' := [(0, .ref 33), (1, .int (v3 12 + 1))]) rfl rfl rfl rfl rfl rfl rfl rfl rfl rfl ?_
            obtain ⟨o14a, o14b, hh⟩ := hh
            refine m_at_ o14a o14b ?_
            refine w_ki (pc1 := 148) rfl ?_
            refine w_mv (pc1 := 150) (st1 := [.int 48, .int (m_at v3 a3 (v3 12 + 1)), .int 0, .ref 33]) rfl rfl rfl ?_
            refine w_mv (pc1 := 151) (st1 := [.int ((m_at v3 a3 (v3 12 + 1)) - 48), .int 0, .ref 33]) rfl rfl rfl ?_
            refine w_mv (pc1 := 152) (st1 := [.int r3, .int ((m_at v3 a3 (v3 12 + 1)) - 48), .int 0, .ref 33]) rfl rfl rfl ?_
            refine w_mv (pc1 := 153) (st1 := [.int 0, .int r3, .int ((m_at v3 a3 (v3 12 + 1)) - 48), .int 0, .ref 33]) rfl rfl rfl ?_
            refine w_mv (pc1 := 154) (st1 := [.int 0, .int 0, .int r3, .int ((m_at v3 a3 (v3 12 + 1)) - 48), .int 0, .ref 33]) rfl rfl rfl ?_
            refine w_mv (pc1 := 155) (st1 := [.int 0, .int 0, .int 0, .int r3, .int ((m_at v3 a3 (v3 12 + 1)) - 48), .int 0, .ref 33]) rfl rfl rfl ?_
            refine w_call (M' := sM_130) (vals := [.ref 33, .int 0, .int ((m_at v3 a3 (v3 12 + 1)) - 48), .int r3, .int 0, .int 0, .int 0]) (rest := []) (lv' := [(0, .ref 33), (1, .int 0), (2, .int ((m_at v3 a3 (v3 12 + 1)) - 48)), (3, .int r3), (4, .int 0), (5, .int 0), (6, .int 0)]) rfl rfl rfl rfl rfl rfl rfl rfl rfl rfl ?_
            refine hh A B _ dc ds _ (fun r15 v15 a15 hh => ?_)
            show s_kont _ _ _ _ _ _ _ (.inl none) (mH A B v15 a15) dc ds
            refine w_kv (pc1 := 158) rfl ?_
            refine w_mv (pc1 := 159) (st1 := [.ref 33]) rfl rfl rfl ?_
            refine w_mv (pc1 := 160) (st1 := [.ref 33, .ref 33]) rfl rfl rfl ?_
            refine w_mv (pc1 := 163) (st1 := [.int (v15 12), .ref 33]) rfl rfl rfl ?_
            refine w_mv (pc1 := 164) (st1 := [.int 2, .int (v15 12), .ref 33]) rfl rfl rfl ?_
            refine w_mv (pc1 := 165) (st1 := [.int (v15 12 + 2), .ref 33]) rfl rfl rfl ?_
            refine w_st (pc1 := 168) (st1 := []) (hs1 := mH A B (va_up v15 12 (v15 12 + 2)) a15) (dc1 := 0) (ds1 := 0) (dc2 := dc) (ds2 := ds) rfl rfl rfl rfl rfl ?_
            refine w_mv (pc1 := 181) (st1 := []) rfl rfl rfl ?_
            refine w_wk (l1 := [(0, .ref 33), (1, .int p1), (2, .int p2)]) rfl ⟨rfl, rfl, rfl, trivial⟩ ?_
            exact hh A B d dc ds P hP
          ·
            replace hh := hh.1 h13
            refine w_ine_T (pc1 := 171) rfl rfl (show (m_at v3 a3 (v3 12)).toInt ≠ 94 from h13) ?_
            refine w_mv (pc1 := 172) (st1 := [.ref 33]) rfl rfl rfl ?_
            refine w_mv (pc1 := 173) (st1 := [.int 0, .ref 33]) rfl rfl rfl ?_
            refine w_mv (pc1 := 174) (st1 := [.int p1, .int 0, .ref 33]) rfl rfl rfl ?_
            refine w_mv (pc1 := 175) (st1 := [.int r3, .int p1, .int 0, .ref 33]) rfl rfl rfl ?_
            refine w_mv (pc1 := 176) (st1 := [.int 0, .int r3, .int p1, .int 0, .ref 33]) rfl rfl rfl ?_
            refine w_mv (pc1 := 177) (st1 := [.int 0, .int 0, .int r3, .int p1, .int 0, .ref 33]) rfl rfl rfl ?_
            refine w_mv (pc1 := 178) (st1 := [.int 0, .int 0, .int 0, .int r3, .int p1, .int 0, .ref 33]) rfl rfl rfl ?_
            refine w_call (M' := sM_130) (vals := [.ref 33, .int 0, .int p1, .int r3, .int 0, .int 0, .int 0]) (rest := []) (lv' := [(0, .ref 33), (1, .int 0), (2, .int p1), (3, .int r3), (4, .int 0), (5, .int 0), (6, .int 0)]) rfl rfl rfl rfl rfl rfl rfl rfl rfl rfl ?_
            refine hh A B _ dc ds _ (fun r16 v16 a16 hh => ?_)
            show s_kont _ _ _ _ _ _ _ (.inl none) (mH A B v16 a16) dc ds
            refine w_kv (pc1 := 181) rfl ?_
            refine w_wk (l1 := [(0, .ref 33), (1, .int p1), (2, .int p2)]) rfl ⟨rfl, rfl, rfl, trivial⟩ ?_
            exact hh A B d dc ds P hP
    ·
      replace hh := hh.1 h2
      refine w_zne_T (pc1 := 197) rfl rfl (show (v 11).toInt ≠ 0 from h2) ?_
      refine w_mv (pc1 := 198) (st1 := [.int p2]) rfl rfl rfl ?_
      exact sx_wp.stop rfl rfl rfl (hP p2 _ _ hh)
set_option maxRecDepth 20000 in
set_option maxHeartbeats 4000000 in
theorem r_123_181 {p1 : Int32} {p2 : Int32} {v : Nat → Int32} {a : Nat → Nat → Int32} {K : Int32 → (Nat → Int32) → (Nat → Nat → Int32) → Prop} (hh : mT 4 sM_123 2 [(0, .ref 33), (1, .int p1), (2, .int (p2 + 1))] [] (va_up v 12 (v 12 + 1)) a K) : mT 4 sM_123 181 [(0, .ref 33), (1, .int p1), (2, .int p2)] [] v a K := by
  intro A B d dc ds P hP
  refine w_mv (pc1 := 182) (st1 := [.ref 33]) rfl rfl rfl ?_
  refine w_mv (pc1 := 183) (st1 := [.ref 33, .ref 33]) rfl rfl rfl ?_
  refine w_mv (pc1 := 186) (st1 := [.int (v 12), .ref 33]) rfl rfl rfl ?_
  refine w_mv (pc1 := 187) (st1 := [.int 1, .int (v 12), .ref 33]) rfl rfl rfl ?_
  refine w_mv (pc1 := 188) (st1 := [.int (v 12 + 1), .ref 33]) rfl rfl rfl ?_
  refine w_st (pc1 := 191) (st1 := []) (hs1 := mH A B (va_up v 12 (v 12 + 1)) a) (dc1 := 0) (ds1 := 0) (dc2 := dc) (ds2 := ds) rfl rfl rfl rfl rfl ?_
  refine w_mv (pc1 := 194) (lv1 := [(2, .int (p2 + 1)), (0, .ref 33), (1, .int p1)]) (st1 := []) rfl rfl rfl ?_
  refine w_mv (pc1 := 2) (st1 := []) rfl rfl rfl ?_
  refine w_wk (l1 := [(0, .ref 33), (1, .int p1), (2, .int (p2 + 1))]) rfl ⟨rfl, rfl, rfl, trivial⟩ ?_
  exact hh A B d dc ds P hP
set_option maxRecDepth 20000 in
set_option maxHeartbeats 4000000 in
theorem r_124_0  {v : Nat → Int32} {a : Nat → Nat → Int32} {K : Int32 → (Nat → Int32) → (Nat → Nat → Int32) → Prop} (hh : mT 3 sM_124 2 [(0, .ref 33), (1, .int 0)] [] v a K) : mT 3 sM_124 0 [(0, .ref 33)] [] v a K := by
  intro A B d dc ds P hP
  refine w_mv (pc1 := 1) (st1 := [.int 0]) rfl rfl rfl ?_
  refine w_mv (pc1 := 2) (lv1 := [(1, .int 0), (0, .ref 33)]) (st1 := []) rfl rfl rfl ?_
  refine w_wk (l1 := [(0, .ref 33), (1, .int 0)]) rfl ⟨rfl, rfl, trivial⟩ ?_
  exact hh A B d dc ds P hP
set_option maxRecDepth 20000 in
set_option maxHeartbeats 4000000 in
theorem r_124_2 {p1 : Int32} {v : Nat → Int32} {a : Nat → Nat → Int32} {K : Int32 → (Nat → Int32) → (Nat → Nat → Int32) → Prop} (hh : 0 ≤ (v 12).toInt ∧ (v 13).toInt ≤ 624 ∧ ((97 ≤ (m_at v a (v 12)).toInt → (m_at v a (v 12)).toInt ≤ 122 → mT 2 sM_126 0 [(0, .ref 33)] [] v a (fun r3 v3 a3 => ((p1.toInt ≤ 0 → mT 3 sM_124 33 [(0, .ref 33), (1, .int p1), (2, .int 1), (3, .int r3)] [] v3 a3 K) ∧ (0 < p1.toInt → 0 ≤ p1.toInt ∧ p1.toInt < 8 ∧ 0 ≤ ((a3 3) p1.toNatClampNeg).toInt ∧ ((a3 3) p1.toNatClampNeg).toInt < 26000 ∧ 0 ≤ ((((a3 3) p1.toNatClampNeg) * 3) + ((a3 15) ((a3 3) p1.toNatClampNeg).toNatClampNeg)).toInt ∧ ((((a3 3) p1.toNatClampNeg) * 3) + ((a3 15) ((a3 3) p1.toNatClampNeg).toNatClampNeg)).toInt < 78000 ∧ 0 ≤ ((a3 3) p1.toNatClampNeg).toInt ∧ ((a3 3) p1.toNatClampNeg).toInt < 26000 ∧ 0 ≤ ((a3 3) p1.toNatClampNeg).toInt ∧ ((a3 3) p1.toNatClampNeg).toInt < 26000 ∧ mT 3 sM_124 33 [(0, .ref 33), (1, .int p1), (2, .int 1), (3, .int r3)] [] v3 (va_up (va_up a3 16 (upd (a3 16) ((((a3 3) p1.toNatClampNeg) * 3) + ((a3 15) ((a3 3) p1.toNatClampNeg).toNatClampNeg)).toNatClampNeg r3)) 15 (upd (a3 15) ((a3 3) p1.toNatClampNeg).toNatClampNeg (((a3 15) ((a3 3) p1.toNatClampNeg).toNatClampNeg) + 1))) K)))) ∧ (((m_at v a (v 12)).toInt < 97 ∨ 122 < (m_at v a (v 12)).toInt) → mT 2 sM_126 0 [(0, .ref 33)] [] v a (fun r10 v10 a10 => ((p1.toInt ≤ 0 → mT 3 sM_124 33 [(0, .ref 33), (1, .int p1), (2, .int 0), (3, .int r10)] [] v10 a10 K) ∧ (0 < p1.toInt → 0 ≤ p1.toInt ∧ p1.toInt < 8 ∧ 0 ≤ ((a10 3) p1.toNatClampNeg).toInt ∧ ((a10 3) p1.toNatClampNeg).toInt < 26000 ∧ 0 ≤ ((((a10 3) p1.toNatClampNeg) * 3) + ((a10 15) ((a10 3) p1.toNatClampNeg).toNatClampNeg)).toInt ∧ ((((a10 3) p1.toNatClampNeg) * 3) + ((a10 15) ((a10 3) p1.toNatClampNeg).toNatClampNeg)).toInt < 78000 ∧ 0 ≤ ((a10 3) p1.toNatClampNeg).toInt ∧ ((a10 3) p1.toNatClampNeg).toInt < 26000 ∧ 0 ≤ ((a10 3) p1.toNatClampNeg).toInt ∧ ((a10 3) p1.toNatClampNeg).toInt < 26000 ∧ mT 3 sM_124 33 [(0, .ref 33), (1, .int p1), (2, .int 0), (3, .int r10)] [] v10 (va_up (va_up a10 16 (upd (a10 16) ((((a10 3) p1.toNatClampNeg) * 3) + ((a10 15) ((a10 3) p1.toNatClampNeg).toNatClampNeg)).toNatClampNeg r10)) 15 (upd (a10 15) ((a10 3) p1.toNatClampNeg).toNatClampNeg (((a10 15) ((a10 3) p1.toNatClampNeg).toNatClampNeg) + 1))) K)))))) : mT 3 sM_124 2 [(0, .ref 33), (1, .int p1)] [] v a K := by
  intro A B d dc ds P hP
  refine w_mv (pc1 := 3) (st1 := [.ref 33]) rfl rfl rfl ?_
  refine w_mv (pc1 := 4) (st1 := [.ref 33, .ref 33]) rfl rfl rfl ?_
  refine w_mv (pc1 := 7) (st1 := [.int (v 12), .ref 33]) rfl rfl rfl ?_
  refine w_call (M' := sM_125) (vals := [.ref 33, .int (v 12)]) (rest := []) (lv' := [(0, .ref 33), (1, .int (v 12))]) rfl rfl rfl rfl rfl rfl rfl rfl rfl rfl ?_
  obtain ⟨o1a, o1b, hh⟩ := hh
  refine m_at_ o1a o1b ?_
  refine w_ki (pc1 := 10) rfl ?_
  refine w_mv (pc1 := 12) (st1 := [.int 97, .int (m_at v a (v 12))]) rfl rfl rfl ?_
  refine w_mv (pc1 := 14) (st1 := [.int 122, .int 97, .int (m_at v a (v 12))]) rfl rfl rfl ?_
  refine w_call (M' := sM_111) (vals := [.int (m_at v a (v 12)), .int 97, .int 122]) (rest := []) (lv' := [(0, .int (m_at v a (v 12))), (1, .int 97), (2, .int 122)]) rfl rfl rfl rfl rfl rfl rfl rfl rfl rfl ?_
  refine m_in (fun h2a h2b => ?_) (fun h2c => ?_)
  ·
    replace hh := hh.1 h2a h2b
    refine w_ki (pc1 := 17) rfl ?_
    refine w_mv (pc1 := 18) (lv1 := [(2, .int 1), (0, .ref 33), (1, .int p1)]) (st1 := []) rfl rfl rfl ?_
    refine w_mv (pc1 := 19) (st1 := [.ref 33]) rfl rfl rfl ?_
    refine w_call (M' := sM_126) (vals := [.ref 33]) (rest := []) (lv' := [(0, .ref 33)]) rfl rfl rfl rfl rfl rfl rfl rfl rfl rfl ?_
    refine hh A B _ dc ds _ (fun r3 v3 a3 hh => ?_)
    show s_kont _ _ _ _ _ _ _ (.inl (some (.int r3))) (mH A B v3 a3) dc ds
    refine w_ki (pc1 := 22) rfl ?_
    refine w_mv (pc1 := 23) (lv1 := [(3, .int r3), (2, .int 1), (0, .ref 33), (1, .int p1)]) (st1 := []) rfl rfl rfl ?_
    refine w_mv (pc1 := 24) (st1 := [.int p1]) rfl rfl rfl ?_
    by_cases h4 : p1.toInt ≤ 0
    ·
      replace hh := hh.1 h4
      refine w_zle_T (pc1 := 33) rfl rfl (show p1.toInt ≤ 0 from h4) ?_
      refine w_wk (l1 := [(0, .ref 33), (1, .int p1), (2, .int 1), (3, .int r3)]) rfl ⟨rfl, rfl, rfl, rfl, trivial⟩ ?_
      exact hh A B d dc ds P hP
    ·
      replace hh := hh.2 (Int.not_le.mp h4)
      refine w_zle_F (pc1 := 27) rfl (by decide) rfl (show 0 < p1.toInt from (Int.not_le.mp h4)) ?_
      refine w_mv (pc1 := 28) (st1 := [.ref 33]) rfl rfl rfl ?_
      refine w_mv (pc1 := 29) (st1 := [.int p1, .ref 33]) rfl rfl rfl ?_
      refine w_mv (pc1 := 30) (st1 := [.int r3, .int p1, .ref 33]) rfl rfl rfl ?_
      refine w_call (M' := sM_129) (vals := [.ref 33, .int p1, .int r3]) (rest := []) (lv' := [(0, .ref 33), (1, .int p1), (2, .int r3)]) rfl rfl rfl rfl rfl rfl rfl rfl rfl rfl ?_
      refine w_mv (pc1 := 1) (st1 := [.ref 33]) rfl rfl rfl ?_
      refine w_mv (pc1 := 4) (st1 := [.ref 37]) rfl rfl rfl ?_
      refine w_mv (pc1 := 5) (st1 := [.int p1, .ref 37]) rfl rfl rfl ?_
      obtain ⟨o5a, o5b, hh⟩ := hh
      refine w_ald (x := 37) (t := 0) (A := (8, .inl (a3 3))) (v := .int ((a3 3) p1.toNatClampNeg)) (pc1 := 6) rfl rfl rfl rfl rfl o5a o5b rfl rfl ?_
      refine w_mv (pc1 := 7) (lv1 := [(3, .int ((a3 3) p1.toNatClampNeg)), (0, .ref 33), (1, .int p1), (2, .int r3)]) (st1 := []) rfl rfl rfl ?_
      refine w_mv (pc1 := 8) (st1 := [.ref 33]) rfl rfl rfl ?_
      refine w_mv (pc1 := 11) (st1 := [.ref 43]) rfl rfl rfl ?_
      refine w_mv (pc1 := 12) (st1 := [.int ((a3 3) p1.toNatClampNeg), .ref 43]) rfl rfl rfl ?_
      refine w_mv (pc1 := 13) (st1 := [.int 3, .int ((a3 3) p1.toNatClampNeg), .ref 43]) rfl rfl rfl ?_
      refine w_mv (pc1 := 14) (st1 := [.int (((a3 3) p1.toNatClampNeg) * 3), .ref 43]) rfl rfl rfl ?_
      refine w_mv (pc1 := 15) (st1 := [.ref 33, .int (((a3 3) p1.toNatClampNeg) * 3), .ref 43]) rfl rfl rfl ?_
      refine w_mv (pc1 := 18) (st1 := [.ref 42, .int (((a3 3) p1.toNatClampNeg) * 3), .ref 43]) rfl rfl rfl ?_
      refine w_mv (pc1 := 19) (st1 := [.int ((a3 3) p1.toNatClampNeg), .ref 42, .int (((a3 3) p1.toNatClampNeg) * 3), .ref 43]) rfl rfl rfl ?_
      obtain ⟨o6a, o6b, hh⟩ := hh
      refine w_ald (x := 42) (t := 0) (A := (26000, .inl (a3 15))) (v := .int ((a3 15) ((a3 3) p1.toNatClampNeg).toNatClampNeg)) (pc1 := 20) rfl rfl rfl rfl rfl o6a o6b rfl rfl ?_
      refine w_mv (pc1 := 21) (st1 := [.int ((((a3 3) p1.toNatClampNeg) * 3) + ((a3 15) ((a3 3) p1.toNatClampNeg).toNatClampNeg)), .ref 43]) rfl rfl rfl ?_
      refine w_mv (pc1 := 22) (st1 := [.int r3, .int ((((a3 3) p1.toNatClampNeg) * 3) + ((a3 15) ((a3 3) p1.toNatClampNeg).toNatClampNeg)), .ref 43]) rfl rfl rfl ?_
      obtain ⟨o7a, o7b, hh⟩ := hh
      refine w_ast (x := 43) (t := 0) (n := 78000) (f := (a3 16)) (ty := .int) (nw := fun x => x) (pc1 := 23) (hs1 := mH A B v3 (va_up a3 16 (upd (a3 16) ((((a3 3) p1.toNatClampNeg) * 3) + ((a3 15) ((a3 3) p1.toNatClampNeg).toNatClampNeg)).toNatClampNeg r3))) rfl rfl rfl rfl rfl rfl o7a o7b rfl mst_16 ?_
      refine w_mv (pc1 := 24) (st1 := [.ref 33]) rfl rfl rfl ?_
      refine w_mv (pc1 := 27) (st1 := [.ref 42]) rfl rfl rfl ?_
      refine w_mv (pc1 := 28) (st1 := [.int ((a3 3) p1.toNatClampNeg), .ref 42]) rfl rfl rfl ?_
      refine w_mv (pc1 := 29) (st1 := [.int ((a3 3) p1.toNatClampNeg), .ref 42, .int ((a3 3) p1.toNatClampNeg), .ref 42]) rfl rfl rfl ?_
      obtain ⟨o8a, o8b, hh⟩ := hh
      refine w_ald (x := 42) (t := 0) (A := (26000, .inl (a3 15))) (v := .int ((a3 15) ((a3 3) p1.toNatClampNeg).toNatClampNeg)) (pc1 := 30) rfl rfl rfl rfl rfl o8a o8b rfl rfl ?_
      refine w_mv (pc1 := 31) (st1 := [.int 1, .int ((a3 15) ((a3 3) p1.toNatClampNeg).toNatClampNeg), .int ((a3 3) p1.toNatClampNeg), .ref 42]) rfl rfl rfl ?_
      refine w_mv (pc1 := 32) (st1 := [.int (((a3 15) ((a3 3) p1.toNatClampNeg).toNatClampNeg) + 1), .int ((a3 3) p1.toNatClampNeg), .ref 42]) rfl rfl rfl ?_
      obtain ⟨o9a, o9b, hh⟩ := hh
      refine w_ast (x := 42) (t := 0) (n := 26000) (f := (a3 15)) (ty := .int) (nw := fun x => x) (pc1 := 33) (hs1 := mH A B v3 (va_up (va_up a3 16 (upd (a3 16) ((((a3 3) p1.toNatClampNeg) * 3) + ((a3 15) ((a3 3) p1.toNatClampNeg).toNatClampNeg)).toNatClampNeg r3)) 15 (upd (a3 15) ((a3 3) p1.toNatClampNeg).toNatClampNeg (((a3 15) ((a3 3) p1.toNatClampNeg).toNatClampNeg) + 1)))) rfl rfl rfl rfl rfl rfl o9a o9b rfl mst_15 ?_
      refine w_vret (pc1 := 33) rfl rfl rfl ?_
      refine w_wk (l1 := [(0, .ref 33), (1, .int p1), (2, .int 1), (3, .int r3)]) rfl ⟨rfl, rfl, rfl, rfl, trivial⟩ ?_
      exact hh A B d dc ds P hP
  ·
    replace hh := hh.2 h2c
    refine w_ki (pc1 := 17) rfl ?_
    refine w_mv (pc1 := 18) (lv1 := [(2, .int 0), (0, .ref 33), (1, .int p1)]) (st1 := []) rfl rfl rfl ?_
    refine w_mv (pc1 := 19) (st1 := [.ref 33]) rfl rfl rfl ?_
    refine w_call (M' := sM_126) (vals := [.ref 33]) (rest := []) (lv' := [(0, .ref 33)]) rfl rfl rfl rfl rfl rfl rfl rfl rfl rfl ?_
    refine hh A B _ dc ds _ (fun r10 v10 a10 hh => ?_)
    show s_kont _ _ _ _ _ _ _ (.inl (some (.int r10))) (mH A B v10 a10) dc ds
    refine w_ki (pc1 := 22) rfl ?_
    refine w_mv (pc1 := 23) (lv1 := [(3, .int r10), (2, .int 0), (0, .ref 33), (1, .int p1)]) (st1 := []) rfl rfl rfl ?_
    refine w_mv (pc1 := 24) (st1 := [.int p1]) rfl rfl rfl ?_
    by_cases h11 : p1.toInt ≤ 0
    ·
      replace hh := hh.1 h11
      refine w_zle_T (pc1 := 33) rfl rfl (show p1.toInt ≤ 0 from h11) ?_
      refine w_wk (l1 := [(0, .ref 33), (1, .int p1), (2, .int 0), (3, .int r10)]) rfl ⟨rfl, rfl, rfl, rfl, trivial⟩ ?_
      exact hh A B d dc ds P hP
    ·
      replace hh := hh.2 (Int.not_le.mp h11)
      refine w_zle_F (pc1 := 27) rfl (by decide) rfl (show 0 < p1.toInt from (Int.not_le.mp h11)) ?_
      refine w_mv (pc1 := 28) (st1 := [.ref 33]) rfl rfl rfl ?_
      refine w_mv (pc1 := 29) (st1 := [.int p1, .ref 33]) rfl rfl rfl ?_
      refine w_mv (pc1 := 30) (st1 := [.int r10, .int p1, .ref 33]) rfl rfl rfl ?_
      refine w_call (M' := sM_129) (vals := [.ref 33, .int p1, .int r10]) (rest := []) (lv' := [(0, .ref 33), (1, .int p1), (2, .int r10)]) rfl rfl rfl rfl rfl rfl rfl rfl rfl rfl ?_
      refine w_mv (pc1 := 1) (st1 := [.ref 33]) rfl rfl rfl ?_
      refine w_mv (pc1 := 4) (st1 := [.ref 37]) rfl rfl rfl ?_
      refine w_mv (pc1 := 5) (st1 := [.int p1, .ref 37]) rfl rfl rfl ?_
      obtain ⟨o12a, o12b, hh⟩ := hh
      refine w_ald (x := 37) (t := 0) (A := (8, .inl (a10 3))) (v := .int ((a10 3) p1.toNatClampNeg)) (pc1 := 6) rfl rfl rfl rfl rfl o12a o12b rfl rfl ?_
      refine w_mv (pc1 := 7) (lv1 := [(3, .int ((a10 3) p1.toNatClampNeg)), (0, .ref 33), (1, .int p1), (2, .int r10)]) (st1 := []) rfl rfl rfl ?_
      refine w_mv (pc1 := 8) (st1 := [.ref 33]) rfl rfl rfl ?_
      refine w_mv (pc1 := 11) (st1 := [.ref 43]) rfl rfl rfl ?_
      refine w_mv (pc1 := 12) (st1 := [.int ((a10 3) p1.toNatClampNeg), .ref 43]) rfl rfl rfl ?_
      refine w_mv (pc1 := 13) (st1 := [.int 3, .int ((a10 3) p1.toNatClampNeg), .ref 43]) rfl rfl rfl ?_
      refine w_mv (pc1 := 14) (st1 := [.int (((a10 3) p1.toNatClampNeg) * 3), .ref 43]) rfl rfl rfl ?_
      refine w_mv (pc1 := 15) (st1 := [.ref 33, .int (((a10 3) p1.toNatClampNeg) * 3), .ref 43]) rfl rfl rfl ?_
      refine w_mv (pc1 := 18) (st1 := [.ref 42, .int (((a10 3) p1.toNatClampNeg) * 3), .ref 43]) rfl rfl rfl ?_
      refine w_mv (pc1 := 19) (st1 := [.int ((a10 3) p1.toNatClampNeg), .ref 42, .int (((a10 3) p1.toNatClampNeg) * 3), .ref 43]) rfl rfl rfl ?_
      obtain ⟨o13a, o13b, hh⟩ := hh
      refine w_ald (x := 42) (t := 0) (A := (26000, .inl (a10 15))) (v := .int ((a10 15) ((a10 3) p1.toNatClampNeg).toNatClampNeg)) (pc1 := 20) rfl rfl rfl rfl rfl o13a o13b rfl rfl ?_
      refine w_mv (pc1 := 21) (st1 := [.int ((((a10 3) p1.toNatClampNeg) * 3) + ((a10 15) ((a10 3) p1.toNatClampNeg).toNatClampNeg)), .ref 43]) rfl rfl rfl ?_
      refine w_mv (pc1 := 22) (st1 := [.int r10, .int ((((a10 3) p1.toNatClampNeg) * 3) + ((a10 15) ((a10 3) p1.toNatClampNeg).toNatClampNeg)), .ref 43]) rfl rfl rfl ?_
      obtain ⟨o14a, o14b, hh⟩ := hh
      refine w_ast (x := 43) (t := 0) (n := 78000) (f := (a10 16)) (ty := .int) (nw := fun x => x) (pc1 := 23) (hs1 := mH A B v10 (va_up a10 16 (upd (a10 16) ((((a10 3) p1.toNatClampNeg) * 3) + ((a10 15) ((a10 3) p1.toNatClampNeg).toNatClampNeg)).toNatClampNeg r10))) rfl rfl rfl rfl rfl rfl o14a o14b rfl mst_16 ?_
      refine w_mv (pc1 := 24) (st1 := [.ref 33]) rfl rfl rfl ?_
      refine w_mv (pc1 := 27) (st1 := [.ref 42]) rfl rfl rfl ?_
      refine w_mv (pc1 := 28) (st1 := [.int ((a10 3) p1.toNatClampNeg), .ref 42]) rfl rfl rfl ?_
      refine w_mv (pc1 := 29) (st1 := [.int ((a10 3) p1.toNatClampNeg), .ref 42, .int ((a10 3) p1.toNatClampNeg), .ref 42]) rfl rfl rfl ?_
      obtain ⟨o15a, o15b, hh⟩ := hh
      refine w_ald (x := 42) (t := 0) (A := (26000, .inl (a10 15))) (v := .int ((a10 15) ((a10 3) p1.toNatClampNeg).toNatClampNeg)) (pc1 := 30) rfl rfl rfl rfl rfl o15a o15b rfl rfl ?_
      refine w_mv (pc1 := 31) (st1 := [.int 1, .int ((a10 15) ((a10 3) p1.toNatClampNeg).toNatClampNeg), .int ((a10 3) p1.toNatClampNeg), .ref 42]) rfl rfl rfl ?_
      refine w_mv (pc1 := 32) (st1 := [.int (((a10 15) ((a10 3) p1.toNatClampNeg).toNatClampNeg) + 1), .int ((a10 3) p1.toNatClampNeg), .ref 42]) rfl rfl rfl ?_
      obtain ⟨o16a, o16b, hh⟩ := hh
      refine w_ast (x := 42) (t := 0) (n := 26000) (f := (a10 15)) (ty := .int) (nw := fun x => x) (pc1 := 33) (hs1 := mH A B v10 (va_up (va_up a10 16 (upd (a10 16) ((((a10 3) p1.toNatClampNeg) * 3) + ((a10 15) ((a10 3) p1.toNatClampNeg).toNatClampNeg)).toNatClampNeg r10)) 15 (upd (a10 15) ((a10 3) p1.toNatClampNeg).toNatClampNeg (((a10 15) ((a10 3) p1.toNatClampNeg).toNatClampNeg) + 1)))) rfl rfl rfl rfl rfl rfl o16a o16b rfl mst_15 ?_
      refine w_vret (pc1 := 33) rfl rfl rfl ?_
      refine w_wk (l1 := [(0, .ref 33), (1, .int p1), (2, .int 0), (3, .int r10)]) rfl ⟨rfl, rfl, rfl, rfl, trivial⟩ ?_
      exact hh A B d dc ds P hP
set_option maxRecDepth 20000 in
set_option maxHeartbeats 4000000 in
theorem r_124_33 {p1 : Int32} {p2 : Int32} {p3 : Int32} {v : Nat → Int32} {a : Nat → Nat → Int32} {K : Int32 → (Nat → Int32) → (Nat → Nat → Int32) → Prop} (hh : ((p2.toInt = 0 → mT 3 sM_124 73 [(0, .ref 33), (1, .int p1), (3, .int p3)] [] v a K) ∧ (p2.toInt ≠ 0 → 0 ≤ (v 12).toInt ∧ (v 13).toInt ≤ 624 ∧ (((m_at v a (v 12)).toInt ≠ 40 → mT 3 sM_124 73 [(0, .ref 33), (1, .int p1), (3, .int p3)] [] v a K) ∧ ((m_at v a (v 12)).toInt = 40 → 0 ≤ (p1 + 1).toInt ∧ (p1 + 1).toInt < 8 ∧ mT 3 sM_124 2 [(0, .ref 33), (1, .int (p1 + 1))] [] (va_up v 12 (v 12 + 1)) (va_up a 3 (upd (a 3) (p1 + 1).toNatClampNeg p3)) K))))) : mT 3 sM_124 33 [(0, .ref 33), (1, .int p1), (2, .int p2), (3, .int p3)] [] v a K := by
  intro A B d dc ds P hP
  refine w_mv (pc1 := 34) (st1 := [.int p2]) rfl rfl rfl ?_
  by_cases h1 : p2.toInt = 0
  ·
    replace hh := hh.1 h1
    refine w_zeq_T (pc1 := 73) rfl rfl (show p2.toInt = 0 from h1) ?_
    refine w_wk (l1 := [(0, .ref 33), (1, .int p1), (3, .int p3)]) rfl ⟨rfl, rfl, rfl, trivial⟩ ?_
    exact hh A B d dc ds P hP
  ·
    replace hh := hh.2 h1
    refine w_zeq_F (pc1 := 37) rfl (by decide) rfl (show p2.toInt ≠ 0 from h1) ?_
    refine w_mv (pc1 := 38) (st1 := [.ref 33]) rfl rfl rfl ?_
    refine w_mv (pc1 := 39) (st1 := [.ref 33, .ref 33]) rfl rfl rfl ?_
    refine w_mv (pc1 := 42) (st1 := [.int (v 12), .ref 33]) rfl rfl rfl ?_
    refine w_call (M' := sM_125) (vals := [.ref 33, .int (v 12)]) (rest := []) (lv' := [(0, .ref 33), (1, .int (v 12))]) rfl rfl rfl rfl rfl rfl rfl rfl rfl rfl ?_
    obtain ⟨o2a, o2b, hh⟩ := hh
    refine m_at_ o2a o2b ?_
    refine w_ki (pc1 := 45) rfl ?_
    refine w_mv (pc1 := 47) (st1 := [.int 40, .int (m_at v a (v 12))]) rfl rfl rfl ?_
    by_cases h3 : (m_at v a (v 12)).toInt = 40
    ·
      replace hh := hh.2 h3
      refine w_ine_F (pc1 := 50) rfl (by decide) rfl (show (m_at v a (v 12)).toInt = 40 from h3) ?_
      refine w_mv (pc1 := 51) (st1 := [.ref 33]) rfl rfl rfl ?_
      refine w_mv (pc1 := 52) (st1 := [.ref 33, .ref 33]) rfl rfl rfl ?_
      refine w_mv (pc1 := 55) (st1 := [.int (v 12), .ref 33]) rfl rfl rfl ?_
      refine w_mv (pc1 := 56) (st1 := [.int 1, .int (v 12), .ref 33]) rfl rfl rfl ?_
      refine w_mv (pc1 := 57) (st1 := [.int (v 12 + 1), .ref 33]) rfl rfl rfl ?_
      refine w_st (pc1 := 60) (st1 := []) (hs1 := mH A B (va_up v 12 (v 12 + 1)) a) (dc1 := 0) (ds1 := 0) (dc2 := dc) (ds2 := ds) rfl rfl rfl rfl rfl ?_
      refine w_mv (pc1 := 63) (lv1 := [(1, .int (p1 + 1)), (0, .ref 33), (2, .int p2), (3, .int p3)]) (st1 := []) rfl rfl rfl ?_
      refine w_mv (pc1 := 64) (st1 := [.ref 33]) rfl rfl rfl ?_
      refine w_mv (pc1 := 67) (st1 := [.ref 37]) rfl rfl rfl ?_
      refine w_mv (pc1 := 68) (st1 := [.int (p1 + 1), .ref 37]) rfl rfl rfl ?_
      refine w_mv (pc1 := 69) (st1 := [.int p3, .int (p1 + 1), .ref 37]) rfl rfl rfl ?_
      obtain ⟨o4a, o4b, hh⟩ := hh
      refine w_ast (x := 37) (t := 0) (n := 8) (f := (a 3)) (ty := .int) (nw := fun x => x) (pc1 := 70) (hs1 := mH A B (va_up v 12 (v 12 + 1)) (va_up a 3 (upd (a 3) (p1 + 1).toNatClampNeg p3))) rfl rfl rfl rfl rfl rfl o4a o4b rfl mst_3 ?_
      refine w_mv (pc1 := 2) (st1 := []) rfl rfl rfl ?_
      refine w_wk (l1 := [(0, .ref 33), (1, .int (p1 + 1))]) rfl ⟨rfl, rfl, trivial⟩ ?_
      exact hh A B d dc ds P hP
    ·
      replace hh := hh.1 h3
      refine w_ine_T (pc1 := 73) rfl rfl (show (m_at v a (v 12)).toInt ≠ 40 from h3) ?_
      refine w_wk (l1 := [(0, .ref 33), (1, .int p1), (3, .int p3)]) rfl ⟨rfl, rfl, rfl, trivial⟩ ?_
      exact hh A B d dc ds P hP
set_option maxRecDepth 20000 in
set_option maxHeartbeats 4000000 in
theorem r_124_73 {p1 : Int32} {p3 : Int32} {v : Nat → Int32} {a : Nat → Nat → Int32} {K : Int32 → (Nat → Int32) → (Nat → Nat → Int32) → Prop} (hh : ((p1.toInt ≤ 0 → ((p1.toInt ≠ 0 → mT 3 sM_124 2 [(0, .ref 33), (1, .int p1)] [] (va_up v 12 (v 12 + 1)) a K) ∧ (p1.toInt = 0 → K p3 v a))) ∧ (0 < p1.toInt → 0 ≤ (v 12).toInt ∧ (v 13).toInt ≤ 624 ∧ (((m_at v a (v 12)).toInt ≠ 41 → ((p1.toInt ≠ 0 → mT 3 sM_124 2 [(0, .ref 33), (1, .int p1)] [] (va_up v 12 (v 12 + 1)) a K) ∧ (p1.toInt = 0 → K p3 v a))) ∧ ((m_at v a (v 12)).toInt = 41 → 0 ≤ p1.toInt ∧ p1.toInt < 8 ∧ mT 3 sM_124 73 [(0, .ref 33), (1, .int (p1 + (-1))), (3, .int ((a 3) p1.toNatClampNeg))] [] (va_up v 12 (v 12 + 1)) a K))))) : mT 3 sM_124 73 [(0, .ref 33), (1, .int p1), (3, .int p3)] [] v a K := by
  intro A B d dc ds P hP
  refine w_mv (pc1 := 74) (st1 := [.int p1]) rfl rfl rfl ?_
  by_cases h1 : p1.toInt ≤ 0
  ·
    replace hh := hh.1 h1
    refine w_zle_T (pc1 := 113) rfl rfl (show p1.toInt ≤ 0 from h1) ?_
    refine w_mv (pc1 := 114) (st1 := [.int p1]) rfl rfl rfl ?_
    by_cases h2 : p1.toInt = 0
    ·
      replace hh := hh.2 h2
      refine w_zne_F (pc1 := 117) rfl (by decide) rfl (show p1.toInt = 0 from h2) ?_
      refine w_mv (pc1 := 118) (st1 := [.int p3]) rfl rfl rfl ?_
      exact sx_wp.stop rfl rfl rfl (hP p3 _ _ hh)
    ·
      replace hh := hh.1 h2
      refine w_zne_T (pc1 := 119) rfl rfl (show p1.toInt ≠ 0 from h2) ?_
      refine w_mv (pc1 := 120) (st1 := [.ref 33]) rfl rfl rfl ?_
      refine w_mv (pc1 := 121) (st1 := [.ref 33, .ref 33]) rfl rfl rfl ?_
      refine w_mv (pc1 := 124) (st1 := [.int (v 12), .ref 33]) rfl rfl rfl ?_
      refine w_mv (pc1 := 125) (st1 := [.int 1, .int (v 12), .ref 33]) rfl rfl rfl ?_
      refine w_mv (pc1 := 126) (st1 := [.int (v 12 + 1), .ref 33]) rfl rfl rfl ?_
      refine w_st (pc1 := 129) (st1 := []) (hs1 := mH A B (va_up v 12 (v 12 + 1)) a) (dc1 := 0) (ds1 := 0) (dc2 := dc) (ds2 := ds) rfl rfl rfl rfl rfl ?_
      refine w_mv (pc1 := 2) (st1 := []) rfl rfl rfl ?_
      refine w_wk (l1 := [(0, .ref 33), (1, .int p1)]) rfl ⟨rfl, rfl, trivial⟩ ?_
      exact hh A B d dc ds P hP
  ·
    replace hh := hh.2 (Int.not_le.mp h1)
    refine w_zle_F (pc1 := 77) rfl (by decide) rfl (show 0 < p1.toInt from (Int.not_le.mp h1)) ?_
    refine w_mv (pc1 := 78) (st1 := [.ref 33]) rfl rfl rfl ?_
    refine w_mv (pc1 := 79) (st1 := [.ref 33, .ref 33]) rfl rfl rfl ?_
    refine w_mv (pc1 := 82) (st1 := [.int (v 12), .ref 33]) rfl rfl rfl ?_
    refine w_call (M' := sM_125) (vals := [.ref 33, .int (v 12)]) (rest := []) (lv' := [(0, .ref 33), (1, .int (v 12))]) rfl rfl rfl rfl rfl rfl rfl rfl rfl rfl ?_
    obtain ⟨o3a, o3b, hh⟩ := hh
    refine m_at_ o3a o3b ?_
    refine w_ki (pc1 := 85) rfl ?_
    refine w_mv (pc1 := 87) (st1 := [.int 41, .int (m_at v a (v 12))]) rfl rfl rfl ?_
    by_cases h4 : (m_at v a (v 12)).toInt = 41
    ·
      replace hh := hh.2 h4
      refine w_ine_F (pc1 := 90) rfl (by decide) rfl (show (m_at v a (v 12)).toInt = 41 from h4) ?_
      refine w_mv (pc1 := 91) (st1 := [.ref 33]) rfl rfl rfl ?_
      refine w_mv (pc1 := 92) (st1 := [.ref 33, .ref 33]) rfl rfl rfl ?_
      refine w_mv (pc1 := 95) (st1 := [.int (v 12), .ref 33]) rfl rfl rfl ?_
      refine w_mv (pc1 := 96) (st1 := [.int 1, .int (v 12), .ref 33]) rfl rfl rfl ?_
      refine w_mv (pc1 := 97) (st1 := [.int (v 12 + 1), .ref 33]) rfl rfl rfl ?_
      refine w_st (pc1 := 100) (st1 := []) (hs1 := mH A B (va_up v 12 (v 12 + 1)) a) (dc1 := 0) (ds1 := 0) (dc2 := dc) (ds2 := ds) rfl rfl rfl rfl rfl ?_
      refine w_mv (pc1 := 101) (st1 := [.ref 33]) rfl rfl rfl ?_
      refine w_mv (pc1 := 104) (st1 := [.ref 37]) rfl rfl rfl ?_
      refine w_mv (pc1 := 105) (st1 := [.int p1, .ref 37]) rfl rfl rfl ?_
      obtain ⟨o5a, o5b, hh⟩ := hh
      refine w_ald (x := 37) (t := 0) (A := (8, .inl (a 3))) (v := .int ((a 3) p1.toNatClampNeg)) (pc1 := 106) rfl rfl rfl rfl rfl o5a o5b rfl rfl ?_
      refine w_mv (pc1 := 107) (lv1 := [(3, .int ((a 3) p1.toNatClampNeg)), (0, .ref 33), (1, .int p1)]) (st1 := []) rfl rfl rfl ?_
      refine w_mv (pc1 := 110) (lv1 := [(1, .int (p1 + (-1))), (3, .int ((a 3) p1.toNatClampNeg)), (0, .ref 33)]) (st1 := []) rfl rfl rfl ?_
      refine w_mv (pc1 := 73) (st1 := []) rfl rfl rfl ?_
      refine w_wk (l1 := [(0, .ref 33), (1, .int (p1 + (-1))), (3, .int ((a 3) p1.toNatClampNeg))]) rfl ⟨rfl, rfl, rfl, trivial⟩ ?_
      exact hh A B d dc ds P hP
    ·
      replace hh := hh.1 h4
      refine w_ine_T (pc1 := 113) rfl rfl (show (m_at v a (v 12)).toInt ≠ 41 from h4) ?_
      refine w_mv (pc1 := 114) (st1 := [.int p1]) rfl rfl rfl ?_
      by_cases h6 : p1.toInt = 0
      ·
        replace hh := hh.2 h6
        refine w_zne_F (pc1 := 117) rfl (by decide) rfl (show p1.toInt = 0 from h6) ?_
        refine w_mv (pc1 := 118) (st1 := [.int p3]) rfl rfl rfl ?_
        exact sx_wp.stop rfl rfl rfl (hP p3 _ _ hh)
      ·
        replace hh := hh.1 h6
        refine w_zne_T (pc1 := 119) rfl rfl (show p1.toInt ≠ 0 from h6) ?_
        refine w_mv (pc1 := 120) (st1 := [.ref 33]) rfl rfl rfl ?_
        refine w_mv (pc1 := 121) (st1 := [.ref 33, .ref 33]) rfl rfl rfl ?_
        refine w_mv (pc1 := 124) (st1 := [.int (v 12), .ref 33]) rfl rfl rfl ?_
        refine w_mv (pc1 := 125) (st1 := [.int 1, .int (v 12), .ref 33]) rfl rfl rfl ?_
        refine w_mv (pc1 := 126) (st1 := [.int (v 12 + 1), .ref 33]) rfl rfl rfl ?_
        refine w_st (pc1 := 129) (st1 := []) (hs1 := mH A B (va_up v 12 (v 12 + 1)) a) (dc1 := 0) (ds1 := 0) (dc2 := dc) (ds2 := ds) rfl rfl rfl rfl rfl ?_
        refine w_mv (pc1 := 2) (st1 := []) rfl rfl rfl ?_
        refine w_wk (l1 := [(0, .ref 33), (1, .int p1)]) rfl ⟨rfl, rfl, trivial⟩ ?_
        exact hh A B d dc ds P hP
set_option maxRecDepth 20000 in
set_option maxHeartbeats 4000000 in
theorem r_126_0  {v : Nat → Int32} {a : Nat → Nat → Int32} {K : Int32 → (Nat → Int32) → (Nat → Nat → Int32) → Prop} (hh : 0 ≤ (v 12).toInt ∧ (v 13).toInt ≤ 624 ∧ ((65 ≤ (m_at v a (v 12)).toInt → (m_at v a (v 12)).toInt ≤ 90 → 0 ≤ ((m_at v a (v 12)) - 65).toInt ∧ ((m_at v a (v 12)) - 65).toInt < 26 ∧ K ((a 5) ((m_at v a (v 12)) - 65).toNatClampNeg) (va_up v 12 (v 12 + 1)) a) ∧ (((m_at v a (v 12)).toInt < 65 ∨ 90 < (m_at v a (v 12)).toInt) → ((48 ≤ (m_at v a (v 12)).toInt → (m_at v a (v 12)).toInt ≤ 57 → 0 ≤ (v 12 + 1).toInt ∧ (v 13).toInt ≤ 624 ∧ ((48 ≤ (m_at (va_up v 12 (v 12 + 1)) a (v 12 + 1)).toInt → (m_at (va_up v 12 (v 12 + 1)) a (v 12 + 1)).toInt ≤ 57 → 0 ≤ (v 12 + 1).toInt ∧ (v 13).toInt ≤ 624 ∧ 0 ≤ (v 37).toInt ∧ (v 37).toInt < 26000 ∧ 0 ≤ (v 37).toInt ∧ (v 37).toInt < 26000 ∧ 0 ≤ ((v 37 + 1 - 1) * 3).toInt ∧ ((v 37 + 1 - 1) * 3).toInt < 78000 ∧ K (v 37 + 1 - 1) (va_up (va_up v 12 (v 12 + 1 + 1)) 37 (v 37 + 1)) (va_up (va_up (va_up a 14 (upd (a 14) (v 37).toNatClampNeg 0)) 15 (upd (a 15) (v 37).toNatClampNeg 0)) 16 (upd (a 16) ((v 37 + 1 - 1) * 3).toNatClampNeg (((((m_at v a (v 12)) - 48) * 10) + (m_at (va_up v 12 (v 12 + 1)) a (v 12 + 1))) - 48)))) ∧ (((m_at (va_up v 12 (v 12 + 1)) a (v 12 + 1)).toInt < 48 ∨ 57 < (m_at (va_up v 12 (v 12 + 1)) a (v 12 + 1)).toInt) → 0 ≤ (v 37).toInt ∧ (v 37).toInt < 26000 ∧ 0 ≤ (v 37).toInt ∧ (v 37).toInt < 26000 ∧ 0 ≤ ((v 37 + 1 - 1) * 3).toInt ∧ ((v 37 + 1 - 1) * 3).toInt < 78000 ∧ K (v 37 + 1 - 1) (va_up (va_up v 12 (v 12 + 1)) 37 (v 37 + 1)) (va_up (va_up (va_up a 14 (upd (a 14) (v 37).toNatClampNeg 0)) 15 (upd (a 15) (v 37).toNatClampNeg 0)) 16 (upd (a 16) ((v 37 + 1 - 1) * 3).toNatClampNeg ((m_at v a (v 12)) - 48)))))) ∧ (((m_at v a (v 12)).toInt < 48 ∨ 57 < (m_at v a (v 12)).toInt) → 0 ≤ (v 37).toInt ∧ (v 37).toInt < 26000 ∧ 0 ≤ (v 37).toInt ∧ (v 37).toInt < 26000 ∧ K (v 37 + 1 - 1) (va_up (va_up v 12 (v 12 + 1)) 37 (v 37 + 1)) (va_up (va_up a 14 (upd (a 14) (v 37).toNatClampNeg (m_at v a (v 12)))) 15 (upd (a 15) (v 37).toNatClampNeg 0))))))) : mT 2 sM_126 0 [(0, .ref 33)] [] v a K := by
  intro A B d dc ds P hP
  refine w_mv (pc1 := 1) (st1 := [.ref 33]) rfl rfl rfl ?_
  refine w_mv (pc1 := 2) (st1 := [.ref 33, .ref 33]) rfl rfl rfl ?_
  refine w_mv (pc1 := 5) (st1 := [.int (v 12), .ref 33]) rfl rfl rfl ?_
  refine w_call (M' := sM_125) (vals := [.ref 33, .int (v 12)]) (rest := []) (lv' := [(0, .ref 33), (1, .int (v 12))]) rfl rfl rfl rfl rfl rfl rfl rfl rfl rfl ?_
  obtain ⟨o1a, o1b, hh⟩ := hh
  refine m_at_ o1a o1b ?_
  refine w_ki (pc1 := 8) rfl ?_
  refine w_mv (pc1 := 9) (lv1 := [(1, .int (m_at v a (v 12))), (0, .ref 33)]) (st1 := []) rfl rfl rfl ?_
  refine w_mv (pc1 := 10) (st1 := [.ref 33]) rfl rfl rfl ?_
  refine w_mv (pc1 := 11) (st1 := [.ref 33, .ref 33]) rfl rfl rfl ?_
  refine w_mv (pc1 := 14) (st1 := [.int (v 12), .ref 33]) rfl rfl rfl ?_
  refine w_mv (pc1 := 15) (st1 := [.int 1, .int (v 12), .ref 33]) rfl rfl rfl ?_
  refine w_mv (pc1 := 16) (st1 := [.int (v 12 + 1), .ref 33]) rfl rfl rfl ?_
  refine w_st (pc1 := 19) (st1 := []) (hs1 := mH A B (va_up v 12 (v 12 + 1)) a) (dc1 := 0) (ds1 := 0) (dc2 := dc) (ds2 := ds) rfl rfl rfl rfl rfl ?_
  refine w_mv (pc1 := 20) (st1 := [.int (m_at v a (v 12))]) rfl rfl rfl ?_
  refine w_mv (pc1 := 22) (st1 := [.int 65, .int (m_at v a (v 12))]) rfl rfl rfl ?_
  refine w_mv (pc1 := 24) (st1 := [.int 90, .int 65, .int (m_at v a (v 12))]) rfl rfl rfl ?_
  refine w_call (M' := sM_111) (vals := [.int (m_at v a (v 12)), .int 65, .int 90]) (rest := []) (lv' := [(0, .int (m_at v a (v 12))), (1, .int 65), (2, .int 90)]) rfl rfl rfl rfl rfl rfl rfl rfl rfl rfl ?_
  refine m_in (fun h2a h2b => ?_) (fun h2c => ?_)
  ·
    replace hh := hh.1 h2a h2b
    refine w_ki (pc1 := 27) rfl ?_
    refine w_mv (pc1 := 30) (st1 := []) rfl rfl rfl ?_
    refine w_mv (pc1 := 31) (st1 := [.ref 33]) rfl rfl rfl ?_
    refine w_mv (pc1 := 34) (st1 := [.ref 39]) rfl rfl rfl ?_
    refine w_mv (pc1 := 35) (st1 := [.int (m_at v a (v 12)), .ref 39]) rfl rfl rfl ?_
    refine w_mv (pc1 := 37) (st1 := [.int 65, .int (m_at v a (v 12)), .ref 39]) rfl rfl rfl ?_
    refine w_mv (pc1 := 38) (st1 := [.int ((m_at v a (v 12)) - 65), .ref 39]) rfl rfl rfl ?_
    obtain ⟨o3a, o3b, hh⟩ := hh
    refine w_ald (x := 39) (t := 0) (A := (26, .inl (a 5))) (v := .int ((a 5) ((m_at v a (v 12)) - 65).toNatClampNeg)) (pc1 := 39) rfl rfl rfl rfl rfl o3a o3b rfl rfl ?_
    exact sx_wp.stop rfl rfl rfl (hP ((a 5) ((m_at v a (v 12)) - 65).toNatClampNeg) _ _ hh)
  ·
    replace hh := hh.2 h2c
    refine w_ki (pc1 := 27) rfl ?_
    refine w_mv (pc1 := 40) (st1 := []) rfl rfl rfl ?_
    refine w_mv (pc1 := 41) (st1 := [.int (m_at v a (v 12))]) rfl rfl rfl ?_
    refine w_mv (pc1 := 43) (st1 := [.int 48, .int (m_at v a (v 12))]) rfl rfl rfl ?_
    refine w_mv (pc1 := 45) (st1 := [.int 57, .int 48, .int (m_at v a (v 12))]) rfl rfl rfl ?_
    refine w_call (M' := sM_111) (vals := [.int (m_at v a (v 12)), .int 48, .int 57]) (rest := []) (lv' := [(0, .int (m_at v a (v 12))), (1, .int 48), (2, .int 57)]) rfl rfl rfl rfl rfl rfl rfl rfl rfl rfl ?_
    refine m_in (fun h4a h4b => ?_) (fun h4c => ?_)
    ·
      replace hh := hh.1 h4a h4b
      refine w_ki (pc1 := 48) rfl ?_
      refine w_mv (pc1 := 57) (st1 := []) rfl rfl rfl ?_
      refine w_mv (pc1 := 58) (st1 := [.int (m_at v a (v 12))]) rfl rfl rfl ?_
      refine w_mv (pc1 := 60) (st1 := [.int 48, .int (m_at v a (v 12))]) rfl rfl rfl ?_
      refine w_mv (pc1 := 61) (st1 := [.int ((m_at v a (v 12)) - 48)]) rfl rfl rfl ?_
      refine w_mv (pc1 := 62) (lv1 := [(2, .int ((m_at v a (v 12)) - 48)), (1, .int (m_at v a (v 12))), (0, .ref 33)]) (st1 := []) rfl rfl rfl ?_
      refine w_mv (pc1 := 63) (st1 := [.ref 33]) rfl rfl rfl ?_
      refine w_mv (pc1 := 64) (st1 := [.ref 33, .ref 33]) rfl rfl rfl ?_
      refine w_mv (pc1 := 67) (st1 := [.int (v 12 + 1), .ref 33]) rfl rfl rfl ?_
      refine w_call (M' := sM_125) (vals := [.ref 33, .int (v 12 + 1)]) (rest := []) (lv' := [(0, .ref 33), (1, .int (v 12 + 1))]) rfl rfl rfl rfl rfl rfl rfl rfl rfl rfl ?_
      obtain ⟨o5a, o5b, hh⟩ := hh
      refine m_at_ o5a o5b ?_
      refine w_ki (pc1 := 70) rfl ?_
      refine w_mv (pc1 := 72) (st1 := [.int 48, .int (m_at (va_up v 12 (v 12 + 1)) a (v 12 + 1))]) rfl rfl rfl ?_
      refine w_mv (pc1 := 74) (st1 := [.int 57, .int 48, .int (m_at (va_up v 12 (v 12 + 1)) a (v 12 + 1))]) rfl rfl rfl ?_
      refine w_call (M' := sM_111) (vals := [.int (m_at (va_up v 12 (v 12 + 1)) a (v 12 + 1)), .int 48, .int 57]) (rest := []) (lv' := [(0, .int (m_at (va_up v 12 (v 12 + 1)) a (v 12 + 1))), (1, .int 48), (2, .int 57)]) rfl rfl rfl rfl rfl rfl rfl rfl rfl rfl ?_
      refine m_in (fun h6a h6b => ?_) (fun h6c => ?_)
      ·
        replace hh := hh.1 h6a h6b
        refine w_ki (pc1 := 77) rfl ?_
        refine w_mv (pc1 := 80) (st1 := []) rfl rfl rfl ?_
        refine w_mv (pc1 := 81) (st1 := [.int ((m_at v a (v 12)) - 48)]) rfl rfl rfl ?_
        refine w_mv (pc1 := 83) (st1 := [.int 10, .int ((m_at v a (v 12)) - 48)]) rfl rfl rfl ?_
        refine w_mv (pc1 := 84) (st1 := [.int (((m_at v a (v 12)) - 48) * 10)]) rfl rfl rfl ?_
        refine w_mv (pc1 := 85) (st1 := [.ref 33, .int (((m_at v a (v 12)) - 48) * 10)]) rfl rfl rfl ?_
        refine w_mv (pc1 := 86) (st1 := [.ref 33, .ref 33, .int (((m_at v a (v 12)) - 48) * 10)]) rfl rfl rfl ?_
        refine w_mv (pc1 := 89) (st1 := [.int (v 12 + 1), .ref 33, .int (((m_at v a (v 12)) - 48) * 10)]) rfl rfl rfl ?_
        refine w_call (M' := sM_125) (vals := [.ref 33, .int (v 12 + 1)]) (rest := [.int (((m_at v a (v 12)) - 48) * 10)]) (lv' := [(0, .ref 33), (1, .int (v 12 + 1))]) rfl rfl rfl rfl rfl rfl rfl rfl rfl rfl ?_
        obtain ⟨o7a, o7b, hh⟩ := hh
        refine m_at_ o7a o7b ?_
        refine w_ki (pc1 := 92) rfl ?_
        refine w_mv (pc1 := 93) (st1 := [.int ((((m_at v a (v 12)) - 48) * 10) + (m_at (va_up v 12 (v 12 + 1)) a (v 12 + 1)))]) rfl rfl rfl ?_
        refine w_mv (pc1 := 95) (st1 := [.int 48, .int ((((m_at v a (v 12)) - 48) * 10) + (m_at (va_up v 12 (v 12 + 1)) a (v 12 + 1)))]) rfl rfl rfl ?_
        refine w_mv (pc1 := 96) (st1 := [.int (((((m_at v a (v 12)) - 48) * 10) + (m_at (va_up v 12 (v 12 + 1)) a (v 12 + 1))) - 48)]) rfl rfl rfl ?_
        refine w_mv (pc1 := 97) (lv1 := [(2, .int (((((m_at v a (v 12)) - 48) * 10) + (m_at (va_up v 12 (v 12 + 1)) a (v 12 + 1))) - 48)), (1, .int (m_at v a (v 12))), (0, .ref 33)]) (st1 := []) rfl rfl rfl ?_
        refine w_mv (pc1 := 98) (st1 := [.ref 33]) rfl rfl rfl ?_
        refine w_mv (pc1 := 99) (st1 := [.ref 33, .ref 33]) rfl rfl rfl ?_
        refine w_mv (pc1 := 102) (st1 := [.int (v 12 + 1), .ref 33]) rfl rfl rfl ?_
        refine w_mv (pc1 := 103) (st1 := [.int 1, .int (v 12 + 1), .ref 33]) rfl rfl rfl ?_
        refine w_mv (pc1 := 104) (st1 := [.int (v 12 + 1 + 1), .ref 33]) rfl rfl rfl ?_
        refine w_st (pc1 := 107) (st1 := []) (hs1 := mH A B (va_up v 12 (v 12 + 1 + 1)) a) (dc1 := 0) (ds1 := 0) (dc2 := dc) (ds2 := ds) rfl rfl rfl rfl rfl ?_
        refine w_mv (pc1 := 108) (st1 := [.ref 33]) rfl rfl rfl ?_
        refine w_mv (pc1 := 109) (st1 := [.int (((((m_at v a (v 12)) - 48) * 10) + (m_at (va_up v 12 (v 12 + 1)) a (v 12 + 1))) - 48), .ref 33]) rfl rfl rfl ?_
        refine w_call (M' := sM_128) (vals := [.ref 33, .int (((((m_at v a (v 12)) - 48) * 10) + (m_at (va_up v 12 (v 12 + 1)) a (v 12 + 1))) - 48)]) (rest := []) (lv' := [(0, .ref 33), (1, .int (((((m_at v a (v 12)) - 48) * 10) + (m_at (va_up v 12 (v 12 + 1)) a (v 12 + 1))) - 48))]) rfl rfl rfl rfl rfl rfl rfl rfl rfl rfl ?_
        refine w_mv (pc1 := 1) (st1 := [.ref 33]) rfl rfl rfl ?_
        refine w_mv (pc1 := 2) (st1 := [.int 0, .ref 33]) rfl rfl rfl ?_
        refine w_call (M' := sM_127) (vals := [.ref 33, .int 0]) (rest := []) (lv' := [(0, .ref 33), (1, .int 0)]) rfl rfl rfl rfl rfl rfl rfl rfl rfl rfl ?_
        refine w_mv (pc1 := 1) (st1 := [.ref 33]) rfl rfl rfl ?_
        refine w_mv (pc1 := 4) (st1 := [.ref 41]) rfl rfl rfl ?_
        refine w_mv (pc1 := 5) (st1 := [.ref 33, .ref 41]) rfl rfl rfl ?_
        refine w_mv (pc1 := 8) (st1 := [.int (v 37), .ref 41]) rfl rfl rfl ?_
        refine w_mv (pc1 := 9) (st1 := [.int 0, .int (v 37), .ref 41]) rfl rfl rfl ?_
        obtain ⟨o8a, o8b, hh⟩ := hh
        refine w_ast (x := 41) (t := 0) (n := 26000) (f := (a 14)) (ty := .int) (nw := fun x => x) (pc1 := 10) (hs1 := mH A B (va_up v 12 (v 12 + 1 + 1)) (va_up a 14 (upd (a 14) (v 37).toNatClampNeg 0))) rfl rfl rfl rfl rfl rfl o8a o8b rfl mst_14 ?_
        refine w_mv (pc1 := 11) (st1 := [.ref 33]) rfl rfl rfl ?_
        refine w_mv (pc1 := 14) (st1 := [.ref 42]) rfl rfl rfl ?_
        refine w_mv (pc1 := 15) (st1 := [.ref 33, .ref 42]) rfl rfl rfl ?_
        refine w_mv (pc1 := 18) (st1 := [.int (v 37), .ref 42]) rfl rfl rfl ?_
        refine w_mv (pc1 := 19) (st1 := [.int 0, .int (v 37), .ref 42]) rfl rfl rfl ?_
        obtain ⟨o9a, o9b, hh⟩ := hh
        refine w_ast (x := 42) (t := 0) (n := 26000) (f := (a 15)) (ty := .int) (nw := fun x => x) (pc1 := 20) (hs1 := mH A B (va_up v 12 (v 12 + 1 + 1)) (va_up (va_up a 14 (upd (a 14) (v 37).toNatClampNeg 0)) 15 (upd (a 15) (v 37).toNatClampNeg 0))) rfl rfl rfl rfl rfl rfl o9a o9b rfl mst_15 ?_
        refine w_mv (pc1 := 21) (st1 := [.ref 33]) rfl rfl rfl ?_
        refine w_mv (pc1 := 22) (st1 := [.ref 33, .ref 33]) rfl rfl rfl ?_
        refine w_mv (pc1 := 25) (st1 := [.int (v 37), .ref 33]) rfl rfl rfl ?_
        refine w_mv (pc1 := 26) (st1 := [.int 1, .int (v 37), .ref 33]) rfl rfl rfl ?_
        refine w_mv (pc1 := 27) (st1 := [.int (v 37 + 1), .ref 33]) rfl rfl rfl ?_
        refine w_st (pc1 := 30) (st1 := []) (hs1 := mH A B (va_up (va_up v 12 (v 12 + 1 + 1)) 37 (v 37 + 1)) (va_up (va_up a 14 (upd (a 14) (v 37).toNatClampNeg 0)) 15 (upd (a 15) (v 37).toNatClampNeg 0))) (dc1 := 0) (ds1 := 0) (dc2 := dc) (ds2 := ds) rfl rfl rfl rfl rfl ?_
        refine w_mv (pc1 := 31) (st1 := [.ref 33]) rfl rfl rfl ?_
        refine w_mv (pc1 := 34) (st1 := [.int (v 37 + 1)]) rfl rfl rfl ?_
        refine w_mv (pc1 := 35) (st1 := [.int 1, .int (v 37 + 1)]) rfl rfl rfl ?_
        refine w_mv (pc1 := 36) (st1 := [.int (v 37 + 1 - 1)]) rfl rfl rfl ?_
        refine w_iret (pc1 := 5) rfl rfl rfl rfl ?_
        refine w_mv (pc1 := 6) (lv1 := [(2, .int (v 37 + 1 - 1)), (0, .ref 33), (1, .int (((((m_at v a (v 12)) - 48) * 10) + (m_at (va_up v 12 (v 12 + 1)) a (v 12 + 1))) - 48))]) (st1 := []) rfl rfl rfl ?_
        refine w_mv (pc1 := 7) (st1 := [.ref 33]) rfl rfl rfl ?_
        refine w_mv (pc1 := 10) (st1 := [.ref 43]) rfl rfl rfl ?_
        refine w_mv (pc1 := 11) (st1 := [.int (v 37 + 1 - 1), .ref 43]) rfl rfl rfl ?_
        refine w_mv (pc1 := 12) (st1 := [.int 3, .int (v 37 + 1 - 1), .ref 43]) rfl rfl rfl ?_
        refine w_mv (pc1 := 13) (st1 := [.int ((v 37 + 1 - 1) * 3), .ref 43]) rfl rfl rfl ?_
        refine w_mv (pc1 := 14) (st1 := [.int (((((m_at v a (v 12)) - 48) * 10) + (m_at (va_up v 12 (v 12 + 1)) a (v 12 + 1))) - 48), .int ((v 37 + 1 - 1) * 3), .ref 43]) rfl rfl rfl ?_
        obtain ⟨o10a, o10b, hh⟩ := hh
        refine w_ast (x := 43) (t := 0) (n := 78000) (f := (a 16)) (ty := .int) (nw := fun x => x) (pc1 := 15) (hs1 := mH A B (va_up (va_up v 12 (v 12 + 1 + 1)) 37 (v 37 + 1)) (va_up (va_up (va_up a 14 (upd (a 14) (v 37).toNatClampNeg 0)) 15 (upd (a 15) (v 37).toNatClampNeg 0)) 16 (upd (a 16) ((v 37 + 1 - 1) * 3).toNatClampNeg (((((m_at v a (v 12)) - 48) * 10) + (m_at (va_up v 12 (v 12 + 1)) a (v 12 + 1))) - 48)))) rfl rfl rfl rfl rfl rfl o10a o10b rfl mst_16 ?_
        refine w_mv (pc1 := 16) (st1 := [.int (v 37 + 1 - 1)]) rfl rfl rfl ?_
        refine w_iret (pc1 := 112) rfl rfl rfl rfl ?_
        exact sx_wp.stop rfl rfl rfl (hP (v 37 + 1 - 1) _ _ hh)
      ·
        replace hh := hh.2 h6c
        refine w_ki (pc1 := 77) rfl ?_
        refine w_mv (pc1 := 107) (st1 := []) rfl rfl rfl ?_
        refine w_mv (pc1 := 108) (st1 := [.ref 33]) rfl rfl rfl ?_
        refine w_mv (pc1 := 109) (st1 := [.int ((m_at v a (v 12)) - 48), .ref 33]) rfl rfl rfl ?_
        refine w_call (M' := sM_128) (vals := [.ref 33, .int ((m_at v a (v 12)) - 48)]) (rest := []) (lv' := [(0, .ref 33), (1, .int ((m_at v a (v 12)) - 48))]) rfl rfl rfl rfl rfl rfl rfl rfl rfl rfl ?_
        refine w_mv (pc1 := 1) (st1 := [.ref 33]) rfl rfl rfl ?_
        refine w_mv (pc1 := 2) (st1 := [.int 0, .ref 33]) rfl rfl rfl ?_
        refine w_call (M' := sM_127) (vals := [.ref 33, .int 0]) (rest := []) (lv' := [(0, .ref 33), (1, .int 0)]) rfl rfl rfl rfl rfl rfl rfl rfl rfl rfl ?_
        refine w_mv (pc1 := 1) (st1 := [.ref 33]) rfl rfl rfl ?_
        refine w_mv (pc1 := 4) (st1 := [.ref 41]) rfl rfl rfl ?_
        refine w_mv (pc1 := 5) (st1 := [.ref 33, .ref 41]) rfl rfl rfl ?_
        refine w_mv (pc1 := 8) (st1 := [.int (v 37), .ref 41]) rfl rfl rfl ?_
        refine w_mv (pc1 := 9) (st1 := [.int 0, .int (v 37), .ref 41]) rfl rfl rfl ?_
        obtain ⟨o11a, o11b, hh⟩ := hh
        refine w_ast (x := 41) (t := 0) (n := 26000) (f := (a 14)) (ty := .int) (nw := fun x => x) (pc1 := 10) (hs1 := mH A B (va_up v 12 (v 12 + 1)) (va_up a 14 (upd (a 14) (v 37).toNatClampNeg 0))) rfl rfl rfl rfl rfl rfl o11a o11b rfl mst_14 ?_
        refine w_mv (pc1 := 11) (st1 := [.ref 33]) rfl rfl rfl ?_
        refine w_mv (pc1 := 14) (st1 := [.ref 42]) rfl rfl rfl ?_
        refine w_mv (pc1 := 15) (st1 := [.ref 33, .ref 42]) rfl rfl rfl ?_
        refine w_mv (pc1 := 18) (st1 := [.int (v 37), .ref 42]) rfl rfl rfl ?_
        refine w_mv (pc1 := 19) (st1 := [.int 0, .int (v 37), .ref 42]) rfl rfl rfl ?_
        obtain ⟨o12a, o12b, hh⟩ := hh
        refine w_ast (x := 42) (t := 0) (n := 26000) (f := (a 15)) (ty := .int) (nw := fun x => x) (pc1 := 20) (hs1 := mH A B (va_up v 12 (v 12 + 1)) (va_up (va_up a 14 (upd (a 14) (v 37).toNatClampNeg 0)) 15 (upd (a 15) (v 37).toNatClampNeg 0))) rfl rfl rfl rfl rfl rfl o12a o12b rfl mst_15 ?_
        refine w_mv (pc1 := 21) (st1 := [.ref 33]) rfl rfl rfl ?_
        refine w_mv (pc1 := 22) (st1 := [.ref 33, .ref 33]) rfl rfl rfl ?_
        refine w_mv (pc1 := 25) (st1 := [.int (v 37), .ref 33]) rfl rfl rfl ?_
        refine w_mv (pc1 := 26) (st1 := [.int 1, .int (v 37), .ref 33]) rfl rfl rfl ?_
        refine w_mv (pc1 := 27) (st1 := [.int (v 37 + 1), .ref 33]) rfl rfl rfl ?_
        refine w_st (pc1 := 30) (st1 := []) (hs1 := mH A B (va_up (va_up v 12 (v 12 + 1)) 37 (v 37 + 1)) (va_up (va_up a 14 (upd (a 14) (v 37).toNatClampNeg 0)) 15 (upd (a 15) (v 37).toNatClampNeg 0))) (dc1 := 0) (ds1 := 0) (dc2 := dc) (ds2 := ds) rfl rfl rfl rfl rfl ?_
        refine w_mv (pc1 := 31) (st1 := [.ref 33]) rfl rfl rfl ?_
        refine w_mv (pc1 := 34) (st1 := [.int (v 37 + 1)]) rfl rfl rfl ?_
        refine w_mv (pc1 := 35) (st1 := [.int 1, .int (v 37 + 1)]) rfl rfl rfl ?_
        refine w_mv (pc1 := 36) (st1 := [.int (v 37 + 1 - 1)]) rfl rfl rfl ?_
        refine w_iret (pc1 := 5) rfl rfl rfl rfl ?_
        refine w_mv (pc1 := 6) (lv1 := [(2, .int (v 37 + 1 - 1)), (0, .ref 33), (1, .int ((m_at v a (v 12)) - 48))]) (st1 := []) rfl rfl rfl ?_
        refine w_mv (pc1 := 7) (st1 := [.ref 33]) rfl rfl rfl ?_
        refine w_mv (pc1 := 10) (st1 := [.ref 43]) rfl rfl rfl ?_
        refine w_mv (pc1 := 11) (st1 := [.int (v 37 + 1 - 1), .ref 43]) rfl rfl rfl ?_
        refine w_mv (pc1 := 12) (st1 := [.int 3, .int (v 37 + 1 - 1), .ref 43]) rfl rfl rfl ?_
        refine w_mv (pc1 := 13) (st1 := [.int ((v 37 + 1 - 1) * 3), .ref 43]) rfl rfl rfl ?_
        refine w_mv (pc1 := 14) (st1 := [.int ((m_at v a (v 12)) - 48), .int ((v 37 + 1 - 1) * 3), .ref 43]) rfl rfl rfl ?_
        obtain ⟨o13a, o13b, hh⟩ := hh
        refine w_ast (x := 43) (t := 0) (n := 78000) (f := (a 16)) (ty := .int) (nw := fun x => x) (pc1 := 15) (hs1 := mH A B (va_up (va_up v 12 (v 12 + 1)) 37 (v 37 + 1)) (va_up (va_up (va_up a 14 (upd (a 14) (v 37).toNatClampNeg 0)) 15 (upd (a 15) (v 37).toNatClampNeg 0)) 16 (upd (a 16) ((v 37 + 1 - 1) * 3).toNatClampNeg ((m_at v a (v 12)) - 48)))) rfl rfl rfl rfl rfl rfl o13a o13b rfl mst_16 ?_
        refine w_mv (pc1 := 16) (st1 := [.int (v 37 + 1 - 1)]) rfl rfl rfl ?_
        refine w_iret (pc1 := 112) rfl rfl rfl rfl ?_
        exact sx_wp.stop rfl rfl rfl (hP (v 37 + 1 - 1) _ _ hh)
    ·
      replace hh := hh.2 h4c
      refine w_ki (pc1 := 48) rfl ?_
      refine w_mv (pc1 := 51) (st1 := []) rfl rfl rfl ?_
      refine w_mv (pc1 := 52) (st1 := [.ref 33]) rfl rfl rfl ?_
      refine w_mv (pc1 := 53) (st1 := [.int (m_at v a (v 12)), .ref 33]) rfl rfl rfl ?_
      refine w_call (M' := sM_127) (vals := [.ref 33, .int (m_at v a (v 12))]) (rest := []) (lv' := [(0, .ref 33), (1, .int (m_at v a (v 12)))]) rfl rfl rfl rfl rfl rfl rfl rfl rfl rfl ?_
      refine w_mv (pc1 := 1) (st1 := [.ref 33]) rfl rfl rfl ?_
      refine w_mv (pc1 := 4) (st1 := [.ref 41]) rfl rfl rfl ?_
      refine w_mv (pc1 := 5) (st1 := [.ref 33, .ref 41]) rfl rfl rfl ?_
      refine w_mv (pc1 := 8) (st1 := [.int (v 37), .ref 41]) rfl rfl rfl ?_
      refine w_mv (pc1 := 9) (st1 := [.int (m_at v a (v 12)), .int (v 37), .ref 41]) rfl rfl rfl ?_
      obtain ⟨o14a, o14b, hh⟩ := hh
      refine w_ast (x := 41) (t := 0) (n := 26000) (f := (a 14)) (ty := .int) (nw := fun x => x) (pc1 := 10) (hs1 := mH A B (va_up v 12 (v 12 + 1)) (va_up a 14 (upd (a 14) (v 37).toNatClampNeg (m_at v a (v 12))))) rfl rfl rfl rfl rfl rfl o14a o14b rfl mst_14 ?_
      refine w_mv (pc1 := 11) (st1 := [.ref 33]) rfl rfl rfl ?_
      refine w_mv (pc1 := 14) (st1 := [.ref 42]) rfl rfl rfl ?_
      refine w_mv (pc1 := 15) (st1 := [.ref 33, .ref 42]) rfl rfl rfl ?_
      refine w_mv (pc1 := 18) (st1 := [.int (v 37), .ref 42]) rfl rfl rfl ?_
      refine w_mv (pc1 := 19) (st1 := [.int 0, .int (v 37), .ref 42]) rfl rfl rfl ?_
      obtain ⟨o15a, o15b, hh⟩ := hh
      refine w_ast (x := 42) (t := 0) (n := 26000) (f := (a 15)) (ty := .int) (nw := fun x => x) (pc1 := 20) (hs1 := mH A B (va_up v 12 (v 12 + 1)) (va_up (va_up a 14 (upd (a 14) (v 37).toNatClampNeg (m_at v a (v 12)))) 15 (upd (a 15) (v 37).toNatClampNeg 0))) rfl rfl rfl rfl rfl rfl o15a o15b rfl mst_15 ?_
      refine w_mv (pc1 := 21) (st1 := [.ref 33]) rfl rfl rfl ?_
      refine w_mv (pc1 := 22) (st1 := [.ref 33, .ref 33]) rfl rfl rfl ?_
      refine w_mv (pc1 := 25) (st1 := [.int (v 37), .ref 33]) rfl rfl rfl ?_
      refine w_mv (pc1 := 26) (st1 := [.int 1, .int (v 37), .ref 33]) rfl rfl rfl ?_
      refine w_mv (pc1 := 27) (st1 := [.int (v 37 + 1), .ref 33]) rfl rfl rfl ?_
      refine w_st (pc1 := 30) (st1 := []) (hs1 := mH A B (va_up (va_up v 12 (v 12 + 1)) 37 (v 37 + 1)) (va_up (va_up a 14 (upd (a 14) (v 37).toNatClampNeg (m_at v a (v 12)))) 15 (upd (a 15) (v 37).toNatClampNeg 0))) (dc1 := 0) (ds1 := 0) (dc2 := dc) (ds2 := ds) rfl rfl rfl rfl rfl ?_
      refine w_mv (pc1 := 31) (st1 := [.ref 33]) rfl rfl rfl ?_
      refine w_mv (pc1 := 34) (st1 := [.int (v 37 + 1)]) rfl rfl rfl ?_
      refine w_mv (pc1 := 35) (st1 := [.int 1, .int (v 37 + 1)]) rfl rfl rfl ?_
      refine w_mv (pc1 := 36) (st1 := [.int (v 37 + 1 - 1)]) rfl rfl rfl ?_
      refine w_iret (pc1 := 56) rfl rfl rfl rfl ?_
      exact sx_wp.stop rfl rfl rfl (hP (v 37 + 1 - 1) _ _ hh)
set_option maxRecDepth 20000 in
set_option maxHeartbeats 4000000 in
theorem r_130_0 {p1 : Int32} {p2 : Int32} {p3 : Int32} {p4 : Int32} {p5 : Int32} {p6 : Int32} {v : Nat → Int32} {a : Nat → Nat → Int32} {K : Int32 → (Nat → Int32) → (Nat → Nat → Int32) → Prop} (hh : ((((((((a 28) 0) + ((a 28) 1)) + ((a 28) 2)) + ((a 28) 3)) + v 40).toInt ≠ 60 → mT 1 sM_130 23 [(0, .ref 33), (1, .int p1), (2, .int p2), (3, .int p3), (4, .int p4), (5, .int p5), (6, .int p6), (7, .int 0)] [] v a K) ∧ (((((((a 28) 0) + ((a 28) 1)) + ((a 28) 2)) + ((a 28) 3)) + v 40).toInt = 60 → K 0 (va_up v 11 2) a))) : mT 1 sM_130 0 [(0, .ref 33), (1, .int p1), (2, .int p2), (3, .int p3), (4, .int p4), (5, .int p5), (6, .int p6)] [] v a K := by
  intro A B d dc ds P hP
  refine w_mv (pc1 := 1) (st1 := [.ref 33]) rfl rfl rfl ?_
  refine w_call (M' := sM_131) (vals := [.ref 33]) (rest := []) (lv' := [(0, .ref 33)]) rfl rfl rfl rfl rfl rfl rfl rfl rfl rfl ?_
  refine w_mv (pc1 := 1) (st1 := [.ref 33]) rfl rfl rfl ?_
  refine w_mv (pc1 := 4) (st1 := [.ref 55]) rfl rfl rfl ?_
  refine w_mv (pc1 := 5) (st1 := [.int 0, .ref 55]) rfl rfl rfl ?_
  refine w_mv (pc1 := 6) (st1 := [.int ((a 28) 0)]) rfl rfl rfl ?_
  refine w_mv (pc1 := 7) (st1 := [.ref 33, .int ((a 28) 0)]) rfl rfl rfl ?_
  refine w_mv (pc1 := 10) (st1 := [.ref 55, .int ((a 28) 0)]) rfl rfl rfl ?_
  refine w_mv (pc1 := 11) (st1 := [.int 1, .ref 55, .int ((a 28) 0)]) rfl rfl rfl ?_
  refine w_mv (pc1 := 12) (st1 := [.int ((a 28) 1), .int ((a 28) 0)]) rfl rfl rfl ?_
  refine w_mv (pc1 := 13) (st1 := [.int (((a 28) 0) + ((a 28) 1))]) rfl rfl rfl ?_
  refine w_mv (pc1 := 14) (st1 := [.ref 33, .int (((a 28) 0) + ((a 28) 1))]) rfl rfl rfl ?_
  refine w_mv (pc1 := 17) (st1 := [.ref 55, .int (((a 28) 0) + ((a 28) 1))]) rfl rfl rfl ?_
  refine w_mv (pc1 := 18) (st1 := [.int 2, .ref 55, .int (((a 28) 0) + ((a 28) 1))]) rfl rfl rfl ?_
  refine w_mv (pc1 := 19) (st1 := [.int ((a 28) 2), .int (((a 28) 0) + ((a 28) 1))]) rfl rfl rfl ?_
  refine w_mv (pc1 := 20) (st1 := [.int ((((a 28) 0) + ((a 28) 1)) + ((a 28) 2))]) rfl rfl rfl ?_
  refine w_mv (pc1 := 21) (st1 := [.ref 33, .int ((((a 28) 0) + ((a 28) 1)) + ((a 28) 2))]) rfl rfl rfl ?_
  refine w_mv (pc1 := 24) (st1 := [.ref 55, .int ((((a 28) 0) + ((a 28) 1)) + ((a 28) 2))]) rfl rfl rfl ?_
  refine w_mv (pc1 := 25) (st1 := [.int 3, .ref 55, .int ((((a 28) 0) + ((a 28) 1)) + ((a 28) 2))]) rfl rfl rfl ?_
  refine w_mv (pc1 := 26) (st1 := [.int ((a 28) 3), .int ((((a 28) 0) + ((a 28) 1)) + ((a 28) 2))]) rfl rfl rfl ?_
  refine w_mv (pc1 := 27) (st1 := [.int (((((a 28) 0) + ((a 28) 1)) + ((a 28) 2)) + ((a 28) 3))]) rfl rfl rfl ?_
  refine w_iret (pc1 := 4) rfl rfl rfl rfl ?_
  refine w_mv (pc1 := 5) (st1 := [.ref 33, .int (((((a 28) 0) + ((a 28) 1)) + ((a 28) 2)) + ((a 28) 3))]) rfl rfl rfl ?_
  refine w_mv (pc1 := 8) (st1 := [.int (v 40), .int (((((a 28) 0) + ((a 28) 1)) + ((a 28) 2)) + ((a 28) 3))]) rfl rfl rfl ?_
  refine w_mv (pc1 := 9) (st1 := [.int ((((((a 28) 0) + ((a 28) 1)) + ((a 28) 2)) + ((a 28) 3)) + v 40)]) rfl rfl rfl ?_
  refine w_mv (pc1 := 11) (st1 := [.int 60, .int ((((((a 28) 0) + ((a 28) 1)) + ((a 28) 2)) + ((a 28) 3)) + v 40)]) rfl rfl rfl ?_
  by_cases h1 : ((((((a 28) 0) + ((a 28) 1)) + ((a 28) 2)) + ((a 28) 3)) + v 40).toInt = 60
  ·
    replace hh := hh.2 h1
    refine w_ine_F (pc1 := 14) rfl (by decide) rfl (show ((((((a 28) 0) + ((a 28) 1)) + ((a 28) 2)) + ((a 28) 3)) + v 40).toInt = 60 from h1) ?_
    refine w_mv (pc1 := 15) (st1 := [.ref 33]) rfl rfl rfl ?_
    refine w_mv (pc1 := 16) (st1 := [.int 2, .ref 33]) rfl rfl rfl ?_
    refine w_st (pc1 := 19) (st1 := []) (hs1 := mH A B (va_up v 11 2) a) (dc1 := 0) (ds1 := 0) (dc2 := dc) (ds2 := ds) rfl rfl rfl rfl rfl ?_
    exact sx_wp.stop rfl rfl rfl (hP 0 _ _ hh)
  ·
    replace hh := hh.1 h1
    refine w_ine_T (pc1 := 20) rfl rfl (show ((((((a 28) 0) + ((a 28) 1)) + ((a 28) 2)) + ((a 28) 3)) + v 40).toInt ≠ 60 from h1) ?_
    refine w_mv (pc1 := 21) (st1 := [.int 0]) rfl rfl rfl ?_
    refine w_mv (pc1 := 23) (lv1 := [(7, .int 0), (0, .ref 33), (1, .int p1), (2, .int p2), (3, .int p3), (4, .int p4), (5, .int p5), (6, .int p6)]) (st1 := []) rfl rfl rfl ?_
    refine w_wk (l1 := [(0, .ref 33), (1, .int p1), (2, .int p2), (3, .int p3), (4, .int p4), (5, .int p5), (6, .int p6), (7, .int 0)]) rfl ⟨rfl, rfl, rfl, rfl, rfl, rfl, rfl, rfl, trivial⟩ ?_
    exact hh A B d dc ds P hP
set_option maxRecDepth 20000 in
set_option maxHeartbeats 4000000 in
theorem r_130_23 {p1 : Int32} {p2 : Int32} {p3 : Int32} {p4 : Int32} {p5 : Int32} {p6 : Int32} {p7 : Int32} {v : Nat → Int32} {a : Nat → Nat → Int32} {K : Int32 → (Nat → Int32) → (Nat → Nat → Int32) → Prop} (hh : 0 ≤ p7.toInt ∧ p7.toInt < 61 ∧ ((((a 30) p7.toNatClampNeg).toInt = 0 → 0 ≤ p7.toInt ∧ p7.toInt < 61 ∧ 0 ≤ p7.toInt ∧ p7.toInt < 61 ∧ 0 ≤ p7.toInt ∧ p7.toInt < 61 ∧ 0 ≤ p7.toInt ∧ p7.toInt < 61 ∧ 0 ≤ p7.toInt ∧ p7.toInt < 61 ∧ 0 ≤ p7.toInt ∧ p7.toInt < 61 ∧ 0 ≤ p7.toInt ∧ p7.toInt < 61 ∧ 0 ≤ p7.toInt ∧ p7.toInt < 61 ∧ 0 ≤ p7.toInt ∧ p7.toInt < 61 ∧ 0 ≤ ((upd (a 19) p7.toNatClampNeg p2) p7.toNatClampNeg).toInt ∧ ((upd (a 19) p7.toNatClampNeg p2) p7.toNatClampNeg).toInt < 4 ∧ 0 ≤ ((((upd (a 19) p7.toNatClampNeg p2) p7.toNatClampNeg) * 61) + ((a 28) ((upd (a 19) p7.toNatClampNeg p2) p7.toNatClampNeg).toNatClampNeg)).toInt ∧ ((((upd (a 19) p7.toNatClampNeg p2) p7.toNatClampNeg) * 61) + ((a 28) ((upd (a 19) p7.toNatClampNeg p2) p7.toNatClampNeg).toNatClampNeg)).toInt < 244 ∧ 0 ≤ ((upd (a 19) p7.toNatClampNeg p2) p7.toNatClampNeg).toInt ∧ ((upd (a 19) p7.toNatClampNeg p2) p7.toNatClampNeg).toInt < 4 ∧ 0 ≤ ((upd (a 19) p7.toNatClampNeg p2) p7.toNatClampNeg).toInt ∧ ((upd (a 19) p7.toNatClampNeg p2) p7.toNatClampNeg).toInt < 4 ∧ K 0 v (va_up (va_up (va_up (va_up (va_up (va_up (va_up (va_up (va_up (va_up a 30 (upd (a 30) p7.toNatClampNeg 1)) 18 (upd (a 18) p7.toNatClampNeg p1)) 19 (upd (a 19) p7.toNatClampNeg p2)) 20 (upd (a 20) p7.toNatClampNeg p3)) 21 (upd (a 21) p7.toNatClampNeg p4)) 22 (upd (a 22) p7.toNatClampNeg p5)) 23 (upd (a 23) p7.toNatClampNeg p6)) 25 (upd (a 25) p7.toNatClampNeg 0)) 27 (upd (a 27) ((((upd (a 19) p7.toNatClampNeg p2) p7.toNatClampNeg) * 61) + ((a 28) ((upd (a 19) p7.toNatClampNeg p2) p7.toNatClampNeg).toNatClampNeg)).toNatClampNeg p7)) 28 (upd (a 28) ((upd (a 19) p7.toNatClampNeg p2) p7.toNatClampNeg).toNatClampNeg (((a 28) ((upd (a 19) p7.toNatClampNeg p2) p7.toNatClampNeg).toNatClampNeg) + 1)))) ∧ (((a 30) p7.toNatClampNeg).toInt ≠ 0 → mT 1 sM_130 23 [(0, .ref 33), (1, .int p1), (2, .int p2), (3, .int p3), (4, .int p4), (5, .int p5), (6, .int p6), (7, .int (p7 + 1))] [] v a K))) : mT 1 sM_130 23 [(0, .ref 33), (1, .int p1), (2, .int p2), (3, .int p3), (4, .int p4), (5, .int p5), (6, .int p6), (7, .int p7)] [] v a K := by
  intro A B d dc ds P hP
  refine w_mv (pc1 := 24) (st1 := [.ref 33]) rfl rfl rfl ?_
  refine w_mv (pc1 := 27) (st1 := [.ref 57]) rfl rfl rfl ?_
  refine w_mv (pc1 := 29) (st1 := [.int p7, .ref 57]) rfl rfl rfl ?_
  obtain ⟨o1a, o1b, hh⟩ := hh
  refine w_ald (x := 57) (t := 2) (A := (61, .inl (a 30))) (v := .int ((a 30) p7.toNatClampNeg)) (pc1 := 30) rfl rfl rfl rfl rfl o1a o1b rfl rfl ?_
  by_cases h2 : ((a 30) p7.toNatClampNeg).toInt = 0
  ·
    replace hh := hh.1 h2
    refine w_zeq_T (pc1 := 39) rfl rfl (show ((a 30) p7.toNatClampNeg).toInt = 0 from h2) ?_
    refine w_mv (pc1 := 40) (st1 := [.ref 33]) rfl rfl rfl ?_
    refine w_mv (pc1 := 43) (st1 := [.ref 57]) rfl rfl rfl ?_
    refine w_mv (pc1 := 45) (st1 := [.int p7, .ref 57]) rfl rfl rfl ?_
    refine w_mv (pc1 := 46) (st1 := [.int 1, .int p7, .ref 57]) rfl rfl rfl ?_
    obtain ⟨o3a, o3b, hh⟩ := hh
    refine w_ast (x := 57) (t := 2) (n := 61) (f := (a 30)) (ty := .boolean) (nw := vp_nar .boolean) (pc1 := 47) (hs1 := mH A B v (va_up a 30 (upd (a 30) p7.toNatClampNeg 1))) rfl rfl rfl rfl rfl rfl o3a o3b rfl mst_30 ?_
    refine w_mv (pc1 := 48) (st1 := [.ref 33]) rfl rfl rfl ?_
    refine w_mv (pc1 := 51) (st1 := [.ref 45]) rfl rfl rfl ?_
    refine w_mv (pc1 := 53) (st1 := [.int p7, .ref 45]) rfl rfl rfl ?_
    refine w_mv (pc1 := 54) (st1 := [.int p1, .int p7, .ref 45]) rfl rfl rfl ?_
    obtain ⟨o4a, o4b, hh⟩ := hh
    refine w_ast (x := 45) (t := 0) (n := 61) (f := (a 18)) (ty := .int) (nw := fun x => x) (pc1 := 55) (hs1 := mH A B v (va_up (va_up a 30 (upd (a 30) p7.toNatClampNeg 1)) 18 (upd (a 18) p7.toNatClampNeg p1))) rfl rfl rfl rfl rfl rfl o4a o4b rfl mst_18 ?_
    refine w_mv (pc1 := 56) (st1 := [.ref 33]) rfl rfl rfl ?_
    refine w_mv (pc1 := 59) (st1 := [.ref 46]) rfl rfl rfl ?_
    refine w_mv (pc1 := 61) (st1 := [.int p7, .ref 46]) rfl rfl rfl ?_
    refine w_mv (pc1 := 62) (st1 := [.int p2, .int p7, .ref 46]) rfl rfl rfl ?_
    obtain ⟨o5a, o5b, hh⟩ := hh
    refine w_ast (x := 46) (t := 0) (n := 61) (f := (a 19)) (ty := .int) (nw := fun x => x) (pc1 := 63) (hs1 := mH A B v (va_up (va_up (va_up a 30 (upd (a 30) p7.toNatClampNeg 1)) 18 (upd (a 18) p7.toNatClampNeg p1)) 19 (upd (a 19) p7.toNatClampNeg p2))) rfl rfl rfl rfl rfl rfl o5a o5b rfl mst_19 ?_
    refine w_mv (pc1 := 64) (st1 := [.ref 33]) rfl rfl rfl ?_
    refine w_mv (pc1 := 67) (st1 := [.ref 47]) rfl rfl rfl ?_
    refine w_mv (pc1 := 69) (st1 := [.int p7, .ref 47]) rfl rfl rfl ?_
    refine w_mv (pc1 := 70) (st1 := [.int p3, .int p7, .ref 47]) rfl rfl rfl ?_
    obtain ⟨o6a, o6b, hh⟩ := hh
    refine w_ast (x := 47) (t := 0) (n := 61) (f := (a 20)) (ty := .int) (nw := fun x => x) (pc1 := 71) (hs1 := mH A B v (va_up (va_up (va_up (va_up a 30 (upd (a 30) p7.toNatClampNeg 1)) 18 (upd (a 18) p7.toNatClampNeg p1)) 19 (upd (a 19) p7.toNatClampNeg p2)) 20 (upd (a 20) p7.toNatClampNeg p3))) rfl rfl rfl rfl rfl rfl o6a o6b rfl mst_20 ?_
    refine w_mv (pc1 := 72) (st1 := [.ref 33]) rfl rfl rfl ?_
    refine w_mv (pc1 := 75) (st1 := [.ref 48]) rfl rfl rfl ?_
    refine w_mv (pc1 := 77) (st1 := [.int p7, .ref 48]) rfl rfl rfl ?_
    refine w_mv (pc1 := 79) (st1 := [.int p4, .int p7, .ref 48]) rfl rfl rfl ?_
    obtain ⟨o7a, o7b, hh⟩ := hh
    refine w_ast (x := 48) (t := 0) (n := 61) (f := (a 21)) (ty := .int) (nw := fun x => x) (pc1 := 80) (hs1 := mH A B v (va_up (va_up (va_up (va_up (va_up a 30 (upd (a 30) p7.toNatClampNeg 1)) 18 (upd (a 18) p7.toNatClampNeg p1)) 19 (upd (a 19) p7.toNatClampNeg p2)) 20 (upd (a 20) p7.toNatClampNeg p3)) 21 (upd (a 21) p7.toNatClampNeg p4))) rfl rfl rfl rfl rfl rfl o7a o7b rfl mst_21 ?_
    refine w_mv (pc1 := 81) (st1 := [.ref 33]) rfl rfl rfl ?_
    refine w_mv (pc1 := 84) (st1 := [.ref 49]) rfl rfl rfl ?_
    refine w_mv (pc1 := 86) (st1 := [.int p7, .ref 49]) rfl rfl rfl ?_
    refine w_mv (pc1 := 88) (st1 := [.int p5, .int p7, .ref 49]) rfl rfl rfl ?_
    obtain ⟨o8a, o8b, hh⟩ := hh
    refine w_ast (x := 49) (t := 0) (n := 61) (f := (a 22)) (ty := .int) (nw := fun x => x) (pc1 := 89) (hs1 := mH A B v (va_up (va_up (va_up (va_up (va_up (va_up a 30 (upd (a 30) p7.toNatClampNeg 1)) 18 (upd (a 18) p7.toNatClampNeg p1)) 19 (upd (a 19) p7.toNatClampNeg p2)) 20 (upd (a 20) p7.toNatClampNeg p3)) 21 (upd (a 21) p7.toNatClampNeg p4)) 22 (upd (a 22) p7.toNatClampNeg p5))) rfl rfl rfl rfl rfl rfl o8a o8b rfl mst_22 ?_
    refine w_mv (pc1 := 90) (st1 := [.ref 33]) rfl rfl rfl ?_
    refine w_mv (pc1 := 93) (st1 := [.ref 50]) rfl rfl rfl ?_
    refine w_mv (pc1 := 95) (st1 := [.int p7, .ref 50]) rfl rfl rfl ?_
    refine w_mv (pc1 := 97) (st1 := [.int p6, .int p7, .ref 50]) rfl rfl rfl ?_
    obtain ⟨o9a, o9b, hh⟩ := hh
    refine w_ast (x := 50) (t := 0) (n := 61) (f := (a 23)) (ty := .int) (nw := fun x => x) (pc1 := 98) (hs1 := mH A B v (va_up (va_up (va_up (va_up (va_up (va_up (va_up a 30 (upd (a 30) p7.toNatClampNeg 1)) 18 (upd (a 18) p7.toNatClampNeg p1)) 19 (upd (a 19) p7.toNatClampNeg p2)) 20 (upd (a 20) p7.toNatClampNeg p3)) 21 (upd (a 21) p7.toNatClampNeg p4)) 22 (upd (a 22) p7.toNatClampNeg p5)) 23 (upd (a 23) p7.toNatClampNeg p6))) rfl rfl rfl rfl rfl rfl o9a o9b rfl mst_23 ?_
    refine w_mv (pc1 := 99) (st1 := [.ref 33]) rfl rfl rfl ?_
    refine w_mv (pc1 := 102) (st1 := [.ref 52]) rfl rfl rfl ?_
    refine w_mv (pc1 := 104) (st1 := [.int p7, .ref 52]) rfl rfl rfl ?_
    refine w_mv (pc1 := 105) (st1 := [.int 0, .int p7, .ref 52]) rfl rfl rfl ?_
    obtain ⟨o10a, o10b, hh⟩ := hh
    refine w_ast (x := 52) (t := 0) (n := 61) (f := (a 25)) (ty := .int) (nw := fun x => x) (pc1 := 106) (hs1 := mH A B v (va_up (va_up (va_up (va_up (va_up (va_up (va_up (va_up a 30 (upd (a 30) p7.toNatClampNeg 1)) 18 (upd (a 18) p7.toNatClampNeg p1)) 19 (upd (a 19) p7.toNatClampNeg p2)) 20 (upd (a 20) p7.toNatClampNeg p3)) 21 (upd (a 21) p7.toNatClampNeg p4)) 22 (upd (a 22) p7.toNatClampNeg p5)) 23 (upd (a 23) p7.toNatClampNeg p6)) 25 (upd (a 25) p7.toNatClampNeg 0))) rfl rfl rfl rfl rfl rfl o10a o10b rfl mst_25 ?_
    refine w_mv (pc1 := 107) (st1 := [.ref 33]) rfl rfl rfl ?_
    refine w_mv (pc1 := 109) (st1 := [.int p7, .ref 33]) rfl rfl rfl ?_
    refine w_call (M' := sM_132) (vals := [.ref 33, .int p7]) (rest := []) (lv' := [(0, .ref 33), (1, .int p7)]) rfl rfl rfl rfl rfl rfl rfl rfl rfl rfl ?_
    refine w_mv (pc1 := 1) (st1 := [.ref 33]) rfl rfl rfl ?_
    refine w_mv (pc1 := 4) (st1 := [.ref 46]) rfl rfl rfl ?_
    refine w_mv (pc1 := 5) (st1 := [.int p7, .ref 46]) rfl rfl rfl ?_
    obtain ⟨o11a, o11b, hh⟩ := hh
    refine w_ald (x := 46) (t := 0) (A := (61, .inl (upd (a 19) p7.toNatClampNeg p2))) (v := .int ((upd (a 19) p7.toNatClampNeg p2) p7.toNatClampNeg)) (pc1 := 6) rfl rfl rfl rfl rfl o11a o11b rfl rfl ?_
    refine w_mv (pc1 := 7) (lv1 := [(2, .int ((upd (a 19) p7.toNatClampNeg p2) p7.toNatClampNeg)), (0, .ref 33), (1, .int p7)]) (st1 := []) rfl rfl rfl ?_
    refine w_mv (pc1 := 8) (st1 := [.ref 33]) rfl rfl rfl ?_
    refine w_mv (pc1 := 11) (st1 := [.ref 54]) rfl rfl rfl ?_
    refine w_mv (pc1 := 12) (st1 := [.int ((upd (a 19) p7.toNatClampNeg p2) p7.toNatClampNeg), .ref 54]) rfl rfl rfl ?_
    refine w_mv (pc1 := 14) (st1 := [.int 61, .int ((upd (a 19) p7.toNatClampNeg p2) p7.toNatClampNeg), .ref 54]) rfl rfl rfl ?_
    refine w_mv (pc1 := 15) (st1 := [.int (((upd (a 19) p7.toNatClampNeg p2) p7.toNatClampNeg) * 61), .ref 54]) rfl rfl rfl ?_
    refine w_mv (pc1 := 16) (st1 := [.ref 33, .int (((upd (a 19) p7.toNatClampNeg p2) p7.toNatClampNeg) * 61), .ref 54]) rfl rfl rfl ?_
    refine w_mv (pc1 := 19) (st1 := [.ref 55, .int (((upd (a 19) p7.toNatClampNeg p2) p7.toNatClampNeg) * 61), .ref 54]) rfl rfl rfl ?_
    refine w_mv (pc1 := 20) (st1 := [.int ((upd (a 19) p7.toNatClampNeg p2) p7.toNatClampNeg), .ref 55, .int (((upd (a 19) p7.toNatClampNeg p2) p7.toNatClampNeg) * 61), .ref 54]) rfl rfl rfl ?_
    obtain ⟨o12a, o12b, hh⟩ := hh
    refine w_ald (x := 55) (t := 0) (A := (4, .inl (a 28))) (v := .int ((a 28) ((upd (a 19) p7.toNatClampNeg p2) p7.toNatClampNeg).toNatClampNeg)) (pc1 := 21) rfl rfl rfl rfl rfl o12a o12b rfl rfl ?_
    refine w_mv (pc1 := 22) (st1 := [.int ((((upd (a 19) p7.toNatClampNeg p2) p7.toNatClampNeg) * 61) + ((a 28) ((upd (a 19) p7.toNatClampNeg p2) p7.toNatClampNeg).toNatClampNeg)), .ref 54]) rfl rfl rfl ?_
    refine w_mv (pc1 := 23) (st1 := [.int p7, .int ((((upd (a 19) p7.toNatClampNeg p2) p7.toNatClampNeg) * 61) + ((a 28) ((upd (a 19) p7.toNatClampNeg p2) p7.toNatClampNeg).toNatClampNeg)), .ref 54]) rfl rfl rfl ?_
    obtain ⟨o13a, o13b, hh⟩ := hh
    refine w_ast (x := 54) (t := 0) (n := 244) (f := (a 27)) (ty := .int) (nw := fun x => x) (pc1 := 24) (hs1 := mH A B v (va_up (va_up (va_up (va_up (va_up (va_up (va_up (va_up (va_up a 30 (upd (a 30) p7.toNatClampNeg 1)) 18 (upd (a 18) p7.toNatClampNeg p1)) 19 (upd (a 19) p7.toNatClampNeg p2)) 20 (upd (a 20) p7.toNatClampNeg p3)) 21 (upd (a 21) p7.toNatClampNeg p4)) 22 (upd (a 22) p7.toNatClampNeg p5)) 23 (upd (a 23) p7.toNatClampNeg p6)) 25 (upd (a 25) p7.toNatClampNeg 0)) 27 (upd (a 27) ((((upd (a 19) p7.toNatClampNeg p2) p7.toNatClampNeg) * 61) + ((a 28) ((upd (a 19) p7.toNatClampNeg p2) p7.toNatClampNeg).toNatClampNeg)).toNatClampNeg p7))) rfl rfl rfl rfl rfl rfl o13a o13b rfl mst_27 ?_
    refine w_mv (pc1 := 25) (st1 := [.ref 33]) rfl rfl rfl ?_
    refine w_mv (pc1 := 28) (st1 := [.ref 55]) rfl rfl rfl ?_
    refine w_mv (pc1 := 29) (st1 := [.int ((upd (a 19) p7.toNatClampNeg p2) p7.toNatClampNeg), .ref 55]) rfl rfl rfl ?_
    refine w_mv (pc1 := 30) (st1 := [.int ((upd (a 19) p7.toNatClampNeg p2) p7.toNatClampNeg), .ref 55, .int ((upd (a 19) p7.toNatClampNeg p2) p7.toNatClampNeg), .ref 55]) rfl rfl rfl ?_
    obtain ⟨o14a, o14b, hh⟩ := hh
    refine w_ald (x := 55) (t := 0) (A := (4, .inl (a 28))) (v := .int ((a 28) ((upd (a 19) p7.toNatClampNeg p2) p7.toNatClampNeg).toNatClampNeg)) (pc1 := 31) rfl rfl rfl rfl rfl o14a o14b rfl rfl ?_
    refine w_mv (pc1 := 32) (st1 := [.int 1, .int ((a 28) ((upd (a 19) p7.toNatClampNeg p2) p7.toNatClampNeg).toNatClampNeg), .int ((upd (a 19) p7.toNatClampNeg p2) p7.toNatClampNeg), .ref 55]) rfl rfl rfl ?_
    refine w_mv (pc1 := 33) (st1 := [.int (((a 28) ((upd (a 19) p7.toNatClampNeg p2) p7.toNatClampNeg).toNatClampNeg) + 1), .int ((upd (a 19) p7.toNatClampNeg p2) p7.toNatClampNeg), .ref 55]) rfl rfl rfl ?_
    obtain ⟨o15a, o15b, hh⟩ := hh
    refine w_ast (x := 55) (t := 0) (n := 4) (f := (a 28)) (ty := .int) (nw := fun x => x) (pc1 := 34) (hs1 := mH A B v (va_up (va_up (va_up (va_up (va_up (va_up (va_up (va_up (va_up (va_up a 30 (upd (a 30) p7.toNatClampNeg 1)) 18 (upd (a 18) p7.toNatClampNeg p1)) 19 (upd (a 19) p7.toNatClampNeg p2)) 20 (upd (a 20) p7.toNatClampNeg p3)) 21 (upd (a 21) p7.toNatClampNeg p4)) 22 (upd (a 22) p7.toNatClampNeg p5)) 23 (upd (a 23) p7.toNatClampNeg p6)) 25 (upd (a 25) p7.toNatClampNeg 0)) 27 (upd (a 27) ((((upd (a 19) p7.toNatClampNeg p2) p7.toNatClampNeg) * 61) + ((a 28) ((upd (a 19) p7.toNatClampNeg p2) p7.toNatClampNeg).toNatClampNeg)).toNatClampNeg p7)) 28 (upd (a 28) ((upd (a 19) p7.toNatClampNeg p2) p7.toNatClampNeg).toNatClampNeg (((a 28) ((upd (a 19) p7.toNatClampNeg p2) p7.toNatClampNeg).toNatClampNeg) + 1)))) rfl rfl rfl rfl rfl rfl o15a o15b rfl mst_28 ?_
    refine w_vret (pc1 := 112) rfl rfl rfl ?_
    exact sx_wp.stop rfl rfl rfl (hP 0 _ _ hh)
  ·
    replace hh := hh.2 h2
    refine w_zeq_F (pc1 := 33) rfl (by decide) rfl (show ((a 30) p7.toNatClampNeg).toInt ≠ 0 from h2) ?_
    refine w_mv (pc1 := 36) (lv1 := [(7, .int (p7 + 1)), (0, .ref 33), (1, .int p1), (2, .int p2), (3, .int p3), (4, .int p4), (5, .int p5), (6, .int p6)]) (st1 := []) rfl rfl rfl ?_
    refine w_mv (pc1 := 23) (st1 := []) rfl rfl rfl ?_
    refine w_wk (l1 := [(0, .ref 33), (1, .int p1), (2, .int p2), (3, .int p3), (4, .int p4), (5, .int p5), (6, .int p6), (7, .int (p7 + 1))]) rfl ⟨rfl, rfl, rfl, rfl, rfl, rfl, rfl, rfl, trivial⟩ ?_
    exact hh A B d dc ds P hP
