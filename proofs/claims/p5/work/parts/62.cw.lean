/-! THE CLASS'S HEAP as a function: N cells, G; rules for walking over it -/
def cH (N : Nat) (G : Nat → sx_C) : sx_H := (List.range N).map G
def c_shl (x y : Int32) : Int32 := x <<< (y &&& 31)
def c_shr (x y : Int32) : Int32 := x >>> (y &&& 31)
def c_ushr (x y : Int32) : Int32 := (x.toUInt32 >>> (y.toUInt32 &&& Int32.toUInt32 31)).toInt32
section CW
variable {N : Nat} {G : Nat → sx_C}
theorem cH_len : (cH N G).length = N := by
  unfold cH
  rw [List.length_map, List.length_range]
theorem cH_get {x : Nat} (h : x < N) : (cH N G)[x]? = some (G x) := by
  unfold cH
  rw [List.getElem?_map, List.getElem?_range h]
  rfl
theorem cH_set {x : Nat} {c : sx_C} : (cH N G).set x c = cH N (va_up G x c) := by
  refine List.ext_getElem? (fun j => ?_)
  rw [List.getElem?_set, cH_len]
  by_cases hj : j < N
  · rw [cH_get hj]
    by_cases e : x = j
    · subst e
      rw [if_pos rfl, if_pos hj, cH_get hj]
      congr 1
      exact up_eq.symm
    · rw [if_neg e, cH_get hj]
      congr 1
      exact (va_ne (fun z => e z.symm)).symm
  · have h1 : (cH N (va_up G x c))[j]? = none := List.getElem?_eq_none (by rw [cH_len]; omega)
    have h2 : (cH N G)[j]? = none := List.getElem?_eq_none (by rw [cH_len]; omega)
    rw [h1, h2]
    by_cases e : x = j
    · subst e
      rw [if_pos rfl, if_neg hj]
    · rw [if_neg e]
theorem va_uu {α : Type} {f : Nat → α} {k : Nat} {x y : α} : va_up (va_up f k x) k y = va_up f k y := by
  funext j
  by_cases e : j = k
  · subst e
    rw [up_eq, up_eq]
  · rw [va_ne e, va_ne e, va_ne e]
theorem cH_push {c : sx_C} : cH N G ++ [c] = cH (N + 1) (va_up G N c) := by
  unfold cH
  rw [List.range_succ, List.map_append]
  congr 1
  · refine List.map_congr_left (fun j hj => ?_)
    exact (va_ne (by have := List.mem_range.mp hj; omega)).symm
  · show [c] = [va_up G N c N]
    rw [up_eq]
theorem cH_obj {x ci : Nat} {fs : List Value} (hx : x < N) (hG : G x = .inr (.inl (ci, fs))) : sx_obj (cH N G) x = some (ci, fs) := by
  unfold sx_obj
  rw [cH_get hx, hG]
theorem cH_arr {x : Nat} {o : Nat × vp_A} (hx : x < N) (hG : G x = .inl o) : sx_arr (cH N G) x = some o := by
  unfold sx_arr
  rw [cH_get hx, hG]
theorem cH_rcv {x b idx : Nat} {fs As : List Value} (h2 : 5 ≤ x) (hx : x < N) (hG : G x = .inr (.inl (b, fs))) : sx_rcv 5 (cH N G) (.invokevirtual idx) b (.ref x :: As) = true := by
  show (match sx_obj (cH N G) x with
    | some o => o.1 == b && decide (5 ≤ x)
    | none => false) = true
  rw [cH_obj hx hG]
  simp [h2]
theorem ne_ob {x y ci cj : Nat} {fs gs : List Value} (hx : G x = .inr (.inl (ci, fs))) (hy : G y = .inr (.inl (cj, gs))) (h : ci ≠ cj) : x ≠ y := by
  intro e
  subst e
  rw [hx] at hy
  cases hy
  exact h rfl
theorem ne_oa {x y ci : Nat} {fs : List Value} {o : Nat × vp_A} (hx : G x = .inr (.inl (ci, fs))) (hy : G y = .inl o) : x ≠ y := by
  intro e
  subst e
  rw [hx] at hy
  cases hy
theorem ne_ao {x y ci : Nat} {fs : List Value} {o : Nat × vp_A} (hx : G x = .inl o) (hy : G y = .inr (.inl (ci, fs))) : x ≠ y := fun e => ne_oa hy hx e.symm
theorem ne_al {x y t n k : Nat} {A B : Nat → Option Nat} (hx : G x = .inl (t, (n, .inr (.inr (.inr (.inr A)))))) (hy : G y = .inl (t, (k, .inr (.inr (.inr (.inr B)))))) (h : n ≠ k) : x ≠ y := by
  intro e
  subst e
  rw [hx] at hy
  cases hy
  exact h rfl
theorem ne_aa {x y t u : Nat} {A B : vp_A} (hx : G x = .inl (t, A)) (hy : G y = .inl (u, B)) (h : t ≠ u) : x ≠ y := by
  intro e
  subst e
  rw [hx] at hy
  cases hy
  exact h rfl
theorem c_acc {P : Nat → Nat → Prop} {a b a1 b1 : Nat} (h : P a b) (h1 : a = a1) (h2 : b = b1) : P a1 b1 := by
  subst h1
  subst h2
  exact h
theorem c_sw0_8 {x : Int32} (h0 : ¬ x = 0) (h1 : ¬ x = 1) (h2 : ¬ x = 2) (h3 : ¬ x = 3) (h4 : ¬ x = 4) (h5 : ¬ x = 5) (h6 : ¬ x = 6) (h7 : ¬ x = 7) (h8 : ¬ x = 8) : x.toInt < 0 ∨ 8 < x.toInt := by
  have q : ∀ (k : Int32), ¬ x = k → x.toInt ≠ k.toInt := fun k hk e => hk (Int32.toInt_inj.mp e)
  have q0 : x.toInt ≠ 0 := q 0 h0
  have q1 : x.toInt ≠ 1 := q 1 h1
  have q2 : x.toInt ≠ 2 := q 2 h2
  have q3 : x.toInt ≠ 3 := q 3 h3
  have q4 : x.toInt ≠ 4 := q 4 h4
  have q5 : x.toInt ≠ 5 := q 5 h5
  have q6 : x.toInt ≠ 6 := q 6 h6
  have q7 : x.toInt ≠ 7 := q 7 h7
  have q8 : x.toInt ≠ 8 := q 8 h8
  omega
variable {d dc ds pc pc1 x i a b : Nat} {M : sx_M} {lv : List (Nat × Value)} {r : List Value} {P : Option Value ⊕ Nat → sx_H → Nat → Nat → Prop}
theorem cw_gf {ci : Nat} {fs : List Value} {v : Value} (hI : M.2.2.2.2.2.2.1 pc = some (.getfield i, 3, ci, b)) (h2 : 5 ≤ x) (hx : x < N) (hG : G x = .inr (.inl (ci, fs))) (hv : fs[b]? = some v) (hp : pc + 3 = pc1) (h : s_wp d M pc1 lv (v :: r) (cH N G) dc ds P) : s_wp d M pc lv (.ref x :: r) (cH N G) dc ds P := by
  subst hp
  refine w_mv hI rfl ?_ h
  show ((sx_obj (cH N G) x).bind fun o => if o.1 = ci ∧ 5 ≤ x then (o.2[b]?).bind fun v => some ((pc + 3, lv, v :: r), cH N G, 0, 0) else none) = _
  rw [cH_obj hx hG, Option.bind_some, if_pos ⟨rfl, h2⟩, hv]
  rfl
theorem cw_pf {ci : Nat} {fs : List Value} {v : Value} {c1 : sx_C} (hI : M.2.2.2.2.2.2.1 pc = some (.putfield i, 3, ci, b)) (h2 : 5 ≤ x) (hx : x < N) (hG : G x = .inr (.inl (ci, fs))) (hl : Nat.blt b fs.length = true) (hf : sx_fit (s_ft ci b) v = true) (hc : (Sum.inr (Sum.inl (ci, fs.set b v)) : sx_C) = c1) (hp : pc + 3 = pc1) (h : s_wp d M pc1 lv r (cH N (va_up G x c1)) dc ds P) : s_wp d M pc lv (v :: .ref x :: r) (cH N G) dc ds P := by
  subst hp
  subst hc
  rw [← cH_set] at h
  refine w_st (dc1 := 0) (ds1 := 0) hI rfl ?_ rfl rfl h
  show ((sx_obj (cH N G) x).bind fun o => if o.1 = ci ∧ 5 ≤ x ∧ b < o.2.length ∧ sx_fit (s_ft ci b) v = true then some ((pc + 3, lv, r), (cH N G).set x (.inr (.inl (o.1, o.2.set b v))), 0, 0) else none) = _
  rw [cH_obj hx hG, Option.bind_some, if_pos ⟨rfl, h2, (show b < fs.length from Nat.le_of_ble_eq_true hl), hf⟩]
theorem cw_new {k : Nat} {c1 : sx_C} (hI : M.2.2.2.2.2.2.1 pc = some (.new i, 3, a, 0)) (hk : (s_df a).length = k) (hc : (Sum.inr (Sum.inl (a, s_df a)) : sx_C) = c1) (hp : pc + 3 = pc1) (h : s_wp d M pc1 lv (.ref N :: r) (cH (N + 1) (va_up G N c1)) (dc + 1) (ds + k) P) : s_wp d M pc lv r (cH N G) dc ds P := by
  subst hp
  subst hc
  rw [← cH_push] at h
  refine w_st (dc1 := 1) (ds1 := k) hI rfl ?_ rfl rfl h
  show some ((pc + 3, lv, .ref (cH N G).length :: r), cH N G ++ [.inr (.inl (a, s_df a))], 1, (s_df a).length) = _
  rw [hk, cH_len]
theorem cw_newq {n : Nat} {z : Int32} (hI : M.2.2.2.2.2.2.1 pc = some (.anewarray i, 3, a, b)) (hp : pc + 3 = pc1) (h0 : 0 ≤ z) (hn : z.toNatClampNeg = n) (h1 : n ≤ 100000) (h : s_wp d M pc1 lv (.ref N :: r) (cH (N + 1) (va_up G N (.inl (a, (n, .inr (.inr (.inr (.inr (fun _ => none))))))))) (dc + 1) (ds + n) P) : s_wp d M pc lv (.int z :: r) (cH N G) dc ds P := by
  subst hp
  subst hn
  rw [← cH_push] at h
  refine w_st (dc1 := 1) (ds1 := z.toNatClampNeg) hI rfl ?_ rfl rfl h
  show (if 0 ≤ z ∧ z.toNatClampNeg ≤ 100000 then some ((pc + 3, lv, .ref (cH N G).length :: r), cH N G ++ [.inl (a, (z.toNatClampNeg, .inr (.inr (.inr (.inr (fun _ => none))))))], 1, z.toNatClampNeg) else none) = _
  rw [if_pos ⟨h0, h1⟩, cH_len]
theorem cw_alen {t : Nat} {A : vp_A} (hI : M.2.2.2.2.2.2.1 pc = some (.arraylength, 1, a, b)) (hx : x < N) (hG : G x = .inl (t, A)) (hp : pc + 1 = pc1) (h : s_wp d M pc1 lv (.int (Int32.ofNat A.1) :: r) (cH N G) dc ds P) : s_wp d M pc lv (.ref x :: r) (cH N G) dc ds P := by
  subst hp
  refine w_mv hI rfl ?_ h
  show ((sx_arr (cH N G) x).bind fun o => some ((pc + 1, lv, .int (Int32.ofNat o.2.1) :: r), cH N G, 0, 0)) = _
  rw [cH_arr hx hG, Option.bind_some]
theorem c_in {z : Int32} {n : Nat} (h0 : 0 ≤ z.toInt) (h1 : z.toInt < (n : Int)) : ¬ (z < 0 ∨ n ≤ z.toNatClampNeg) := by
  intro q
  rcases q with q | q
  · have := Int32.lt_iff_toInt_lt.mp q
    rw [show ((0 : Int32)).toInt = 0 from by decide] at this
    omega
  · have q' : n ≤ z.toInt.toNat := q
    omega
theorem cw_ald {t n : Nat} {f : Nat → Option Nat} {z : Int32} (hI : M.2.2.2.2.2.2.1 pc = some (.aaload, 1, a, b)) (hx : x < N) (hG : G x = .inl (t, (n, .inr (.inr (.inr (.inr f)))))) (ht : (s_tf t).isReference = true) (h0 : 0 ≤ z.toInt) (h1 : z.toInt < (n : Int)) (hp : pc + 1 = pc1) (h : s_wp d M pc1 lv (va_rf (f z.toNatClampNeg) :: r) (cH N G) dc ds P) : s_wp d M pc lv (.int z :: .ref x :: r) (cH N G) dc ds P := by
  subst hp
  refine w_mv hI rfl ?_ h
  show ((sx_arr (cH N G) x).bind fun o => if (s_tf o.1).isReference = true ∧ ¬ (z < 0 ∨ o.2.1 ≤ z.toNatClampNeg) then some ((pc + 1, lv, sx_val o.2 z.toNatClampNeg :: r), cH N G, 0, 0) else none) = _
  rw [cH_arr hx hG, Option.bind_some, if_pos ⟨ht, c_in h0 h1⟩]
  rfl
theorem cw_bld {n : Nat} {f : Nat → Int32} {z : Int32} (hI : M.2.2.2.2.2.2.1 pc = some (.baload, 1, a, 0)) (hx : x < N) (hG : G x = .inl (1, (n, .inl f))) (h0 : 0 ≤ z.toInt) (h1 : z.toInt < (n : Int)) (hp : pc + 1 = pc1) (h : s_wp d M pc1 lv (.int (f z.toNatClampNeg) :: r) (cH N G) dc ds P) : s_wp d M pc lv (.int z :: .ref x :: r) (cH N G) dc ds P := by
  subst hp
  refine w_mv hI rfl ?_ h
  show ((sx_arr (cH N G) x).bind fun o => if (s_tf o.1 == .byte) = true ∧ ¬ (z < 0 ∨ o.2.1 ≤ z.toNatClampNeg) then some ((pc + 1, lv, sx_val o.2 z.toNatClampNeg :: r), cH N G, 0, 0) else none) = _
  rw [cH_arr hx hG, Option.bind_some, if_pos ⟨rfl, c_in h0 h1⟩]
  rfl
theorem cw_bst {n : Nat} {f : Nat → Int32} {z v : Int32} (hI : M.2.2.2.2.2.2.1 pc = some (.bastore, 1, a, 0)) (h2 : 5 ≤ x) (hx : x < N) (hG : G x = .inl (1, (n, .inl f))) (h0 : 0 ≤ z.toInt) (h1 : z.toInt < (n : Int)) (hp : pc + 1 = pc1) (h : s_wp d M pc1 lv r (cH N (va_up G x (.inl (1, (n, .inl (upd f z.toNatClampNeg (vp_nar .byte v))))))) dc ds P) : s_wp d M pc lv (.int v :: .int z :: .ref x :: r) (cH N G) dc ds P := by
  subst hp
  rw [← cH_set] at h
  refine w_st (dc1 := 0) (ds1 := 0) hI rfl ?_ rfl rfl h
  show ((sx_arr (cH N G) x).bind fun o => (sx_ai o.2).bind fun f => if s_tf o.1 = .byte ∧ 5 ≤ x ∧ ¬ (z < 0 ∨ o.2.1 ≤ z.toNatClampNeg) then some ((pc + 1, lv, r), (cH N G).set x (.inl (o.1, (o.2.1, .inl (upd f z.toNatClampNeg (vp_nar .byte v))))), 0, 0) else none) = _
  rw [cH_arr hx hG, Option.bind_some]
  show (if s_tf 1 = .byte ∧ 5 ≤ x ∧ ¬ (z < 0 ∨ n ≤ z.toNatClampNeg) then _ else _) = _
  rw [if_pos ⟨rfl, h2, c_in h0 h1⟩]
theorem cw_as {t n y ci : Nat} {f : Nat → Option Nat} {z : Int32} {vs : List Value} (hI : M.2.2.2.2.2.2.1 pc = some (.aastore, 1, a, b)) (h2 : 5 ≤ x) (hx : x < N) (hG : G x = .inl (t, (n, .inr (.inr (.inr (.inr f)))))) (y2 : 5 ≤ y) (hy : y < N) (hv : G y = .inr (.inl (ci, vs))) (hc : s_cst (ci + 1) t = true) (h0 : 0 ≤ z.toInt) (h1 : z.toInt < (n : Int)) (hp : pc + 1 = pc1) (h : s_wp d M pc1 lv r (cH N (va_up G x (.inl (t, (n, .inr (.inr (.inr (.inr (va_up f z.toNatClampNeg (some y)))))))))) dc ds P) : s_wp d M pc lv (.ref y :: .int z :: .ref x :: r) (cH N G) dc ds P := by
  subst hp
  rw [← cH_set] at h
  refine w_st (dc1 := 0) (ds1 := 0) hI rfl ?_ rfl rfl h
  show ((sx_arr (cH N G) x).bind fun o => (sx_aq o.2).bind fun f => if 5 ≤ x ∧ ¬ (z < 0 ∨ o.2.1 ≤ z.toNatClampNeg) then ((sx_obj (cH N G) y).bind fun w => if 5 ≤ y ∧ s_cst (w.1 + 1) o.1 = true then some ((pc + 1, lv, r), (cH N G).set x (.inl (o.1, (o.2.1, .inr (.inr (.inr (.inr (va_up f z.toNatClampNeg (some y)))))))), 0, 0) else none) else none) = _
  rw [cH_arr hx hG, Option.bind_some]
  show (if 5 ≤ x ∧ ¬ (z < 0 ∨ n ≤ z.toNatClampNeg) then _ else _) = _
  rw [if_pos ⟨h2, c_in h0 h1⟩, cH_obj hy hv, Option.bind_some, if_pos ⟨y2, hc⟩]
theorem cw_asN {t n : Nat} {f : Nat → Option Nat} {z : Int32} (hI : M.2.2.2.2.2.2.1 pc = some (.aastore, 1, a, b)) (h2 : 5 ≤ x) (hx : x < N) (hG : G x = .inl (t, (n, .inr (.inr (.inr (.inr f)))))) (hc : s_cst 0 t = true) (h0 : 0 ≤ z.toInt) (h1 : z.toInt < (n : Int)) (hp : pc + 1 = pc1) (h : s_wp d M pc1 lv r (cH N (va_up G x (.inl (t, (n, .inr (.inr (.inr (.inr (va_up f z.toNatClampNeg none))))))))) dc ds P) : s_wp d M pc lv (.null :: .int z :: .ref x :: r) (cH N G) dc ds P := by
  subst hp
  rw [← cH_set] at h
  refine w_st (dc1 := 0) (ds1 := 0) hI rfl ?_ rfl rfl h
  show ((sx_arr (cH N G) x).bind fun o => (sx_aq o.2).bind fun f => if 5 ≤ x ∧ ¬ (z < 0 ∨ o.2.1 ≤ z.toNatClampNeg) then (if s_cst 0 o.1 = true then some ((pc + 1, lv, r), (cH N G).set x (.inl (o.1, (o.2.1, .inr (.inr (.inr (.inr (va_up f z.toNatClampNeg none))))))), 0, 0) else none) else none) = _
  rw [cH_arr hx hG, Option.bind_some]
  show (if 5 ≤ x ∧ ¬ (z < 0 ∨ n ≤ z.toNatClampNeg) then _ else _) = _
  rw [if_pos ⟨h2, c_in h0 h1⟩, if_pos hc]
theorem cw_cast {fs : List Value} (hI : M.2.2.2.2.2.2.1 pc = some (.checkcast i, 3, a, b)) (h2 : 5 ≤ x) (hx : x < N) (hG : G x = .inr (.inl (a, fs))) (hp : pc + 3 = pc1) (h : s_wp d M pc1 lv (.ref x :: r) (cH N G) dc ds P) : s_wp d M pc lv (.ref x :: r) (cH N G) dc ds P := by
  subst hp
  refine w_mv hI rfl ?_ h
  show ((sx_obj (cH N G) x).bind fun o => if o.1 = a ∧ 5 ≤ x then some ((pc + 3, lv, .ref x :: r), cH N G, 0, 0) else none) = _
  rw [cH_obj hx hG, Option.bind_some, if_pos ⟨rfl, h2⟩]
theorem c_dep {d1 d2 : Nat} {st : List Value} {hs : sx_H} (h : d1 = d2) (hh : s_wp d1 M pc lv st hs dc ds P) : s_wp d2 M pc lv st hs dc ds P := h ▸ hh
theorem op_r {y : Nat} (h : y ≠ 4) : sx_op (.ref y) = some (some y) := if_neg h
theorem op_n : sx_op .null = some none := rfl
theorem c_b0 {v w : Value} {xo yo : Option Nat} {off : Int} {eq : Bool} (hv : sx_op v = some yo) (hw : sx_op w = some xo) : sx_b0 pc off lv (v :: w :: r) eq = sx_bb pc off lv r (decide (xo = yo) == eq) := by
  show (match sx_op v, sx_op w with
    | some y, some x => sx_bb pc off lv r (decide (x = y) == eq)
    | _, _ => none) = _
  rw [hv, hw]
theorem cw_acE_T {v w : Value} {xo yo : Option Nat} {off : Int} (hI : M.2.2.2.2.2.2.1 pc = some (.if_acmp .eq off, 3, a, b)) (hp : (pc : Int) + off = (pc1 : Int)) (hv : sx_op v = some yo) (hw : sx_op w = some xo) (he : xo = yo) (h : s_wp d M pc1 lv r (cH N G) dc ds P) : s_wp d M pc lv (v :: w :: r) (cH N G) dc ds P := by
  refine w_mv hI rfl ?_ h
  show ((sx_b0 pc off lv (v :: w :: r) true).bind fun F => some (F, cH N G, 0, 0)) = _
  rw [c_b0 hv hw, decide_eq_true he]
  exact sx_bb_T hp
theorem cw_acE_F {v w : Value} {xo yo : Option Nat} {off : Int} (hI : M.2.2.2.2.2.2.1 pc = some (.if_acmp .eq off, 3, a, b)) (hz : 0 ≤ (pc : Int) + off) (hp : pc + 3 = pc1) (hv : sx_op v = some yo) (hw : sx_op w = some xo) (he : ¬ xo = yo) (h : s_wp d M pc1 lv r (cH N G) dc ds P) : s_wp d M pc lv (v :: w :: r) (cH N G) dc ds P := by
  subst hp
  refine w_mv hI rfl ?_ h
  show ((sx_b0 pc off lv (v :: w :: r) true).bind fun F => some (F, cH N G, 0, 0)) = _
  rw [c_b0 hv hw, decide_eq_false he]
  exact sx_bb_F hz
theorem cw_acN_T {v w : Value} {xo yo : Option Nat} {off : Int} (hI : M.2.2.2.2.2.2.1 pc = some (.if_acmp .ne off, 3, a, b)) (hp : (pc : Int) + off = (pc1 : Int)) (hv : sx_op v = some yo) (hw : sx_op w = some xo) (he : ¬ xo = yo) (h : s_wp d M pc1 lv r (cH N G) dc ds P) : s_wp d M pc lv (v :: w :: r) (cH N G) dc ds P := by
  refine w_mv hI rfl ?_ h
  show ((sx_b0 pc off lv (v :: w :: r) false).bind fun F => some (F, cH N G, 0, 0)) = _
  rw [c_b0 hv hw, decide_eq_false he]
  exact sx_bb_T hp
theorem cw_acN_F {v w : Value} {xo yo : Option Nat} {off : Int} (hI : M.2.2.2.2.2.2.1 pc = some (.if_acmp .ne off, 3, a, b)) (hz : 0 ≤ (pc : Int) + off) (hp : pc + 3 = pc1) (hv : sx_op v = some yo) (hw : sx_op w = some xo) (he : xo = yo) (h : s_wp d M pc1 lv r (cH N G) dc ds P) : s_wp d M pc lv (v :: w :: r) (cH N G) dc ds P := by
  subst hp
  refine w_mv hI rfl ?_ h
  show ((sx_b0 pc off lv (v :: w :: r) false).bind fun F => some (F, cH N G, 0, 0)) = _
  rw [c_b0 hv hw, decide_eq_true he]
  exact sx_bb_F hz
theorem o_ne {x y : Nat} (h : ¬ x = y) : ¬ (some x : Option Nat) = some y := fun q => h (Option.some.inj q)
theorem o_eq {x y : Nat} (h : x = y) : (some x : Option Nat) = some y := congrArg some h
theorem o_n1 {y : Nat} : ¬ (none : Option Nat) = some y := fun q => by cases q
theorem o_n2 {y : Nat} : ¬ (some y : Option Nat) = none := fun q => by cases q
theorem cw_idiv {z y : Int32} (hI : M.2.2.2.2.2.2.1 pc = some (.idiv, 1, a, b)) (hne : ¬ y = 0) (hp : pc + 1 = pc1) (h : s_wp d M pc1 lv (.int (z / y) :: r) (cH N G) dc ds P) : s_wp d M pc lv (.int y :: .int z :: r) (cH N G) dc ds P := by
  subst hp
  refine w_mv hI rfl ?_ h
  show ((if y = 0 then none else some (pc + 1, lv, Value.int (z / y) :: r)).bind fun F => some (F, cH N G, 0, 0)) = _
  rw [if_neg hne]
  rfl
theorem cH_rcvS {x b ci idx : Nat} {fs As : List Value} (h2 : 5 ≤ x) (hx : x < N) (hG : G x = .inr (.inl (ci, fs))) (hb : ci + 100 = b) : sx_rcv 5 (cH N G) (.invokespecial idx) b (.ref x :: As) = true := by
  show (if b < 100 then true else (match sx_obj (cH N G) x with
    | some o => o.1 + 100 == b && decide (5 ≤ x)
    | none => false)) = true
  rw [if_neg (by omega), cH_obj hx hG]
  simp [h2, hb]
/-- what may stand in a list's array -/
def c_el (N : Nat) (G : Nat → sx_C) (o : Option Nat) : Prop := ∀ y, o = some y → 5 ≤ y ∧ y < N ∧ ∃ (ci : Nat) (vs : List Value), G y = .inr (.inl (ci, vs)) ∧ s_cst (ci + 1) 4 = true
theorem c_nn {z : Int32} (h : 0 ≤ z.toInt) : ¬ z < 0 := fun q => by
  have := Int32.lt_iff_toInt_lt.mp q
  rw [show ((0 : Int32)).toInt = 0 from by decide] at this
  omega
theorem c_cl {z : Int32} (h : 0 ≤ z.toInt) : (z.toNatClampNeg : Int) = z.toInt := by
  show ((z.toInt.toNat : Nat) : Int) = z.toInt
  omega
theorem cw_cpq {y n0 n1 : Nat} {f g : Nat → Option Nat} {sp dp n : Int32} (hI : M.2.2.2.2.2.2.1 pc = some (.invokestatic i, 3, a, 1000)) (h2 : 5 ≤ x) (hx : x < N) (hG : G x = .inl (4, (n0, .inr (.inr (.inr (.inr f)))))) (y2 : 5 ≤ y) (hy : y < N) (hGy : G y = .inl (4, (n1, .inr (.inr (.inr (.inr g)))))) (hd : 1 ≤ d) (h8 : sx_cats r ≤ 8)
    (hh : 0 ≤ sp.toInt ∧ 0 ≤ dp.toInt ∧ 0 ≤ n.toInt ∧ sp.toInt + n.toInt ≤ (n0 : Int) ∧ dp.toInt + n.toInt ≤ (n1 : Int) ∧ ∀ i, i < n.toNatClampNeg → c_el N G (f (sp.toNatClampNeg + i))) (hp : pc + 3 = pc1) (h : s_wp d M pc1 lv r (cH N (va_up G y (.inl (4, (n1, .inr (.inr (.inr (.inr (va_cpy f g sp.toNatClampNeg dp.toNatClampNeg n.toNatClampNeg))))))))) dc ds P) : s_wp d M pc lv (.int n :: .int dp :: .ref y :: .int sp :: .ref x :: r) (cH N G) dc ds P := by
  subst hp
  rw [← cH_set] at h
  obtain ⟨q1, q2, q3, q4, q5, q6⟩ := hh
  refine sx_wp.nat hI rfl ?_ ⟨hd, h8⟩ h
  have e1 := c_cl q1
  have e2 := c_cl q2
  have e3 := c_cl q3
  show ((sx_ncp 5 s_tf s_cst (.int n :: .int dp :: .ref y :: .int sp :: .ref x :: r) (cH N G)).bind fun q => some (pc + 3, q.1, q.2)) = _
  unfold sx_ncp
  dsimp only
  rw [cH_arr hx hG, Option.bind_some, cH_arr hy hGy, Option.bind_some]
  dsimp only
  rw [if_pos ⟨⟨rfl, h2, y2⟩, ⟨c_nn q1, c_nn q2, c_nn q3⟩, by omega, by omega⟩]
  show ((if s_cst 0 4 = true ∧ ∀ i, i < n.toNatClampNeg → sx_elok 5 s_cst 4 (cH N G) (f (sp.toNatClampNeg + i)) = true then some (r, (cH N G).set y (.inl (4, (n1, .inr (.inr (.inr (.inr (va_cpy f g sp.toNatClampNeg dp.toNatClampNeg n.toNatClampNeg)))))))) else none).bind fun q => some (pc + 3, q.1, q.2)) = _
  have hz : ∀ i, i < n.toNatClampNeg → sx_elok 5 s_cst 4 (cH N G) (f (sp.toNatClampNeg + i)) = true := by
    intro j hj
    have hq := q6 j hj
    unfold sx_elok
    split
    · rfl
    · rename_i z hz
      obtain ⟨g1, g2, ci, vs, g3, g4⟩ := hq z hz
      rw [cH_obj g2 g3]
      simp [g1, g4]
  rw [if_pos ⟨rfl, hz⟩]
  rfl
theorem cw_cpb {y n0 n1 : Nat} {f g : Nat → Int32} {sp dp n : Int32} (hI : M.2.2.2.2.2.2.1 pc = some (.invokestatic i, 3, a, 1000)) (h2 : 5 ≤ x) (hx : x < N) (hG : G x = .inl (1, (n0, .inl f))) (y2 : 5 ≤ y) (hy : y < N) (hGy : G y = .inl (1, (n1, .inl g))) (hd : 1 ≤ d) (h8 : sx_cats r ≤ 8)
    (hh : 0 ≤ sp.toInt ∧ 0 ≤ dp.toInt ∧ 0 ≤ n.toInt ∧ sp.toInt + n.toInt ≤ (n0 : Int) ∧ dp.toInt + n.toInt ≤ (n1 : Int) ∧ ∀ i, i < n.toNatClampNeg → sx_fit .byte (.int (f (sp.toNatClampNeg + i))) = true) (hp : pc + 3 = pc1) (h : s_wp d M pc1 lv r (cH N (va_up G y (.inl (1, (n1, .inl (va_cpy f g sp.toNatClampNeg dp.toNatClampNeg n.toNatClampNeg)))))) dc ds P) : s_wp d M pc lv (.int n :: .int dp :: .ref y :: .int sp :: .ref x :: r) (cH N G) dc ds P := by
  subst hp
  rw [← cH_set] at h
  obtain ⟨q1, q2, q3, q4, q5, q6⟩ := hh
  refine sx_wp.nat hI rfl ?_ ⟨hd, h8⟩ h
  have e1 := c_cl q1
  have e2 := c_cl q2
  have e3 := c_cl q3
  show ((sx_ncp 5 s_tf s_cst (.int n :: .int dp :: .ref y :: .int sp :: .ref x :: r) (cH N G)).bind fun q => some (pc + 3, q.1, q.2)) = _
  unfold sx_ncp
  dsimp only
  rw [cH_arr hx hG, Option.bind_some, cH_arr hy hGy, Option.bind_some]
  dsimp only
  rw [if_pos ⟨⟨rfl, h2, y2⟩, ⟨c_nn q1, c_nn q2, c_nn q3⟩, by omega, by omega⟩]
  show ((if refKind (s_tf 1) = false ∧ ∀ i, i < n.toNatClampNeg → sx_fit (s_tf 1) (.int (f (sp.toNatClampNeg + i))) = true then some (r, (cH N G).set y (.inl (1, (n1, .inl (va_cpy f g sp.toNatClampNeg dp.toNatClampNeg n.toNatClampNeg))))) else none).bind fun q => some (pc + 3, q.1, q.2)) = _
  rw [if_pos ⟨rfl, q6⟩]
  rfl
theorem c_nmi {j : Nat} (h4 : 4 < N) (hG : G 4 = .inr (.inr j)) : sx_nmi 5 4 (cH N G) = true := by
  unfold sx_nmi
  rw [cH_get h4, hG]
  rfl
theorem cw_gc {A : vp_A} (hI : M.2.2.2.2.2.2.1 pc = some (.invokevirtual i, 3, 1004, 1000)) (h2 : 5 ≤ x) (hx : x < N) (hG : G x = .inl (4, A)) (hm : 4 < N ∧ ∃ j : Nat, G 4 = .inr (.inr j)) (hd : 1 ≤ d) (h8 : sx_cats (.ref 4 :: r) ≤ 8) (hp : pc + 3 = pc1) (h : s_wp d M pc1 lv (.ref 4 :: r) (cH N G) dc ds P) : s_wp d M pc lv (.ref x :: r) (cH N G) dc ds P := by
  subst hp
  obtain ⟨m1, j, m2⟩ := hm
  refine sx_wp.nat hI rfl ?_ ⟨hd, h8⟩ h
  show (((sx_arr (cH N G) x).bind fun o => if o.1 = 4 ∧ 5 ≤ x ∧ sx_nmi 5 4 (cH N G) = true then some (Value.ref 4 :: r) else none).bind fun q => some (pc + 3, q, cH N G)) = _
  rw [cH_arr hx hG, Option.bind_some, if_pos ⟨rfl, h2, c_nmi m1 m2⟩]
  rfl
theorem cw_lc (hI : M.2.2.2.2.2.2.1 pc = some (.ldc i, 2, 1004, 1000)) (hm : 4 < N ∧ ∃ j : Nat, G 4 = .inr (.inr j)) (hd : 1 ≤ d) (h8 : sx_cats r ≤ 8) (hp : pc + 5 = pc1) (h : s_wp d M pc1 lv r (cH N G) dc ds P) : s_wp d M pc lv (.ref 4 :: r) (cH N G) dc ds P := by
  subst hp
  obtain ⟨m1, j, m2⟩ := hm
  refine sx_wp.nat hI rfl ?_ ⟨hd, h8⟩ h
  show (if 4 = 4 ∧ sx_nmi 5 4 (cH N G) = true then some (pc + 5, r, cH N G) else none) = _
  rw [if_pos ⟨rfl, c_nmi m1 m2⟩]
theorem cw_fm {z w : Int32} (hI : M.2.2.2.2.2.2.1 pc = some (.getstatic i, 3, a, 1000)) (h0 : 0 ≤ z.toInt) (h1 : z.toInt < w.toInt) (hd : 1 ≤ d) (h8 : sx_cats (.int z :: r) ≤ 8) (hp : pc + 6 = pc1) (h : s_wp d M pc1 lv (.int z :: r) (cH N G) dc ds P) : s_wp d M pc lv (.int w :: .int z :: r) (cH N G) dc ds P := by
  subst hp
  refine sx_wp.nat hI rfl ?_ ⟨hd, h8⟩ h
  show ((if ¬ z < 0 ∧ z < w then some (Value.int z :: r) else none).bind fun q => some (pc + 6, q, cH N G)) = _
  rw [if_pos ⟨c_nn h0, Int32.lt_iff_toInt_lt.mpr h1⟩]
  rfl
theorem cw_newb {n : Nat} {z : Int32} (hI : M.2.2.2.2.2.2.1 pc = some (.newarray .byte, 2, 1, b)) (hp : pc + 2 = pc1) (h0 : 0 ≤ z.toInt) (hn : z.toNatClampNeg = n) (h1 : n ≤ 100000) (h : s_wp d M pc1 lv (.ref N :: r) (cH (N + 1) (va_up G N (.inl (1, (n, .inl (fun _ => 0)))))) (dc + 1) (ds + n) P) : s_wp d M pc lv (.int z :: r) (cH N G) dc ds P := by
  subst hp
  subst hn
  rw [← cH_push] at h
  refine w_st (dc1 := 1) (ds1 := z.toNatClampNeg) hI rfl ?_ rfl rfl h
  show (if 0 ≤ z ∧ z.toNatClampNeg ≤ 100000 then some ((pc + 2, lv, .ref (cH N G).length :: r), cH N G ++ [.inl (1, (z.toNatClampNeg, .inl (fun _ => 0)))], 1, z.toNatClampNeg) else none) = _
  rw [if_pos ⟨Int32.le_iff_toInt_le.mpr h0, h1⟩, cH_len]
theorem c_fitc {x : Int32} : sx_fit .char (.int (UInt32.toInt32 (Int32.toUInt32 x % 65536))) = true := by
  have e := pk_char x
  have h := pk_charN (q := x.toBitVec.toNat % 65536) (Nat.mod_lt _ (by decide))
  rw [e]
  show ((nI (x.toBitVec.toNat % 65536)).toUInt32.toUInt16.toUInt32.toInt32 == nI (x.toBitVec.toNat % 65536) && fits .char (.int (nI (x.toBitVec.toNat % 65536)))) = true
  rw [h.2, Bool.and_true, beq_iff_eq]
  exact Value.int.inj h.1
theorem cw_cend {z : Int32} {hs : sx_H} (hI : M.2.2.2.2.2.2.1 pc = some (.ireturn, 1, a, b)) (hr : M.2.2.2.1 = some .char) (hx : sx_fit .char (.int z) = true) (h : P (.inl (some (.int z))) hs dc ds) : s_wp d M pc lv [.int z] hs dc ds P := by
  refine sx_wp.stop hI rfl (v := .inl (some (.int z))) (hs1 := hs) (dc1 := 0) (ds1 := 0) ?_ h
  rw [hr]
  show (if sx_fit .char (.int z) = true ∧ 1 = 1 then _ else _) = _
  rw [if_pos ⟨hx, rfl⟩]
theorem cw_bend {z : Int32} {hs : sx_H} (hI : M.2.2.2.2.2.2.1 pc = some (.ireturn, 1, a, b)) (hr : M.2.2.2.1 = some .boolean) (hx : z = 0 ∨ z = 1) (h : P (.inl (some (.int z))) hs dc ds) : s_wp d M pc lv [.int z] hs dc ds P := by
  refine sx_wp.stop hI rfl (v := .inl (some (.int z))) (hs1 := hs) (dc1 := 0) (ds1 := 0) ?_ h
  rw [hr]
  show (if sx_fit .boolean (.int z) = true ∧ 1 = 1 then _ else _) = _
  rw [if_pos ⟨by rcases hx with rfl | rfl <;> rfl, rfl⟩]
theorem cw_thr (hI : M.2.2.2.2.2.2.1 pc = some (.new i, 3, a, 1)) (h4 : sx_kd (.new i) 1 = 4) (h6 : 6 ≤ d) (h8 : sx_cats r ≤ 8) (h : P (.inr N) (cH (N + 1) (va_up G N (.inr (.inr a)))) (dc + 1) (ds + 6)) : s_wp d M pc lv r (cH N G) dc ds P := by
  refine sx_wp.throw hI h4 ⟨h6, h8⟩ ?_
  rw [cH_len, cH_push]
  exact h
theorem w_kr {pc0 : Nat} {v : Value} {rest : List Value} {hs : sx_H} {i0 : Instr} (hp : pc0 + 3 = pc1) (h : s_wp (d + 1) M pc1 lv (v :: rest) hs dc ds P) : s_kont d M pc0 lv rest i0 P (.inl (some v)) hs dc ds := by
  subst hp
  exact h
end CW
/-- a method of the class, at pc with these locals, comes to its end with K; h frames below; K tells of the cells and slots made from here on -/
def cT (h : Nat) (M : sx_M) (pc : Nat) (lv : List (Nat × Value)) (st : List Value) (N : Nat) (G : Nat → sx_C) (K : Option Value ⊕ Nat → Nat → (Nat → sx_C) → Nat → Nat → Prop) : Prop :=
  ∀ (d dc ds : Nat) (P : Option Value ⊕ Nat → sx_H → Nat → Nat → Prop), (∀ r N1 G1 kc ks, K r N1 G1 kc ks → P r (cH N1 G1) (dc + kc) (ds + ks)) → s_wp (d + h) M pc lv st (cH N G) dc ds P
theorem cT.mono {h : Nat} {M : sx_M} {pc : Nat} {lv : List (Nat × Value)} {st : List Value} {N : Nat} {G : Nat → sx_C} {K K' : Option Value ⊕ Nat → Nat → (Nat → sx_C) → Nat → Nat → Prop} (hh : cT h M pc lv st N G K) (hk : ∀ r N1 G1 kc ks, K r N1 G1 kc ks → K' r N1 G1 kc ks) : cT h M pc lv st N G K' :=
  fun d dc ds P hP => hh d dc ds P (fun r N1 G1 kc ks q => hP r N1 G1 kc ks (hk r N1 G1 kc ks q))
