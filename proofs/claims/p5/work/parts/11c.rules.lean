/-! RULES FOR WALKING (by program: wip/sx/gen_rules.py) -/
section SXWK
variable {K0 : Nat} {ft : Nat → Nat → FieldType} {df : Nat → List Value} {tf : Nat → FieldType} {cst : Nat → Nat → Bool} {zs : List (String × String × String × Value)} {ks : Nat → Value} {mt : Nat → Option sx_M}
variable {d pc dc ds : Nat} {M M' : sx_M} {lv lv' : List (Nat × Value)} {st rest : List Value} {hs : sx_H} {i i0 : Instr} {len a b : Nat} {P : Option Value ⊕ Nat → sx_H → Nat → Nat → Prop}
/-- nothing on the heap changes -/
theorem w_mv {pc1 : Nat} {lv1 : List (Nat × Value)} {st1 : List Value} (hI : M.2.2.2.2.2.2.1 pc = some (i, len, a, b)) (h0 : sx_kd i b = 0) (hS : sx_hs K0 ft df tf cst zs ks M.2.2.1 i len a b pc lv st hs = some ((pc1, lv1, st1), hs, 0, 0)) (h : sx_wp K0 ft df tf cst zs ks mt d M pc1 lv1 st1 hs dc ds P) : sx_wp K0 ft df tf cst zs ks mt d M pc lv st hs dc ds P :=
  sx_wp.step hI h0 hS h
/-- the heap changes -/
theorem w_st {pc1 dc1 ds1 dc2 ds2 : Nat} {lv1 : List (Nat × Value)} {st1 : List Value} {hs1 : sx_H} (hI : M.2.2.2.2.2.2.1 pc = some (i, len, a, b)) (h0 : sx_kd i b = 0) (hS : sx_hs K0 ft df tf cst zs ks M.2.2.1 i len a b pc lv st hs = some ((pc1, lv1, st1), hs1, dc1, ds1)) (h1 : dc + dc1 = dc2) (h2 : ds + ds1 = ds2) (h : sx_wp K0 ft df tf cst zs ks mt d M pc1 lv1 st1 hs1 dc2 ds2 P) : sx_wp K0 ft df tf cst zs ks mt d M pc lv st hs dc ds P := by
  subst h1
  subst h2
  exact sx_wp.step hI h0 hS h
theorem w_obj {q pc1 : Nat} {st1 : List Value} (hI : M.2.2.2.2.2.2.1 pc = some (i, len, a, b)) (h3 : sx_kd i b = 3) (hq : sx_popR st = some (q, st1)) (hc : 1 ≤ d ∧ sx_cats st1 ≤ 8) (hp : pc + 3 = pc1) (h : sx_wp K0 ft df tf cst zs ks mt d M pc1 lv st1 hs dc ds P) : sx_wp K0 ft df tf cst zs ks mt d M pc lv st hs dc ds P := by
  subst hp
  exact sx_wp.obj hI h3 hq hc h
variable (K0 ft df tf cst zs ks mt) in
/-- what is to come when a call has ended -/
def sx_kont (d : Nat) (M : sx_M) (pc : Nat) (lv : List (Nat × Value)) (rest : List Value) (i : Instr) (P : Option Value ⊕ Nat → sx_H → Nat → Nat → Prop) : Option Value ⊕ Nat → sx_H → Nat → Nat → Prop := fun v hs1 dc1 ds1 => match v with
  | .inl v => sx_wp K0 ft df tf cst zs ks mt (d + 1) M (pc + 3) lv (v.toList ++ rest) hs1 dc1 ds1 P
  | .inr x => ∃ j h9 : Nat, hs1[x]? = some (.inr (.inr j)) ∧ sx_find M.2.2.2.2.2.2.2 pc j = some h9 ∧ (K0 ≤ x ∧ sx_isV i = true) ∧ sx_wp K0 ft df tf cst zs ks mt (d + 1) M h9 lv [.ref x] hs1 dc1 ds1 P
theorem w_call {vals : List Value} (hI : M.2.2.2.2.2.2.1 pc = some (i, len, a, b)) (h2 : sx_kd i b = 2) (hM : mt a = some M') (ht : (st.take (sx_tot i M'.2.2.2.2.1)).reverse = vals) (hr : st.drop (sx_tot i M'.2.2.2.2.1) = rest) (hn : Nat.ble (sx_tot i M'.2.2.2.2.1) st.length = true) (hv : sx_rcv K0 hs i b vals = true) (hc : Nat.ble (sx_cats rest) 8 = true) (hw : Nat.ble (lg_sl vals).length M'.2.2.1 = true) (hl : lv_args 0 vals = lv')
    (h : sx_wp K0 ft df tf cst zs ks mt d M' 0 lv' [] hs dc ds (sx_kont K0 ft df tf cst zs ks mt d M pc lv rest i P)) : sx_wp K0 ft df tf cst zs ks mt (d + 1) M pc lv st hs dc ds P := by
  subst ht
  subst hr
  subst hl
  exact sx_wp.call hI h2 hM ⟨Nat.le_of_ble_eq_true hn, hv, Nat.le_of_ble_eq_true hc, Nat.le_of_ble_eq_true hw⟩ h
theorem w_iret {pc0 pc1 : Nat} {lv0 : List (Nat × Value)} {x : Int32} {ty : FieldType} (hI : M'.2.2.2.2.2.2.1 pc = some (.ireturn, 1, a, b)) (hr : M'.2.2.2.1 = some ty) (hf : sx_fit ty (.int x) = true) (hp : pc0 + 3 = pc1) (h : sx_wp K0 ft df tf cst zs ks mt (d + 1) M pc1 lv (.int x :: rest) hs dc ds P) : sx_wp K0 ft df tf cst zs ks mt d M' pc lv0 [.int x] hs dc ds (sx_kont K0 ft df tf cst zs ks mt d M pc0 lv rest i0 P) := by
  subst hp
  refine sx_wp.stop hI rfl (v := .inl (some (.int x))) (hs1 := hs) (dc1 := 0) (ds1 := 0) ?_ h
  rw [hr]
  show (if sx_fit ty (.int x) = true ∧ 1 = 1 then _ else _) = _
  rw [if_pos ⟨hf, rfl⟩]
theorem w_vret {pc0 pc1 : Nat} {lv0 : List (Nat × Value)} (hI : M'.2.2.2.2.2.2.1 pc = some (.return_, 1, a, b)) (hr : M'.2.2.2.1 = none) (hp : pc0 + 3 = pc1) (h : sx_wp K0 ft df tf cst zs ks mt (d + 1) M pc1 lv rest hs dc ds P) : sx_wp K0 ft df tf cst zs ks mt d M' pc lv0 [] hs dc ds (sx_kont K0 ft df tf cst zs ks mt d M pc0 lv rest i0 P) := by
  subst hp
  refine sx_wp.stop hI rfl (v := .inl none) (hs1 := hs) (dc1 := 0) (ds1 := 0) ?_ h
  rw [hr]
  rfl
theorem w_aret {pc0 pc1 : Nat} {lv0 : List (Nat × Value)} {x : Nat} {ty : FieldType} (hI : M'.2.2.2.2.2.2.1 pc = some (.areturn, 1, a, b)) (hr : M'.2.2.2.1 = some ty) (hf : sx_isRT ty = true) (hp : pc0 + 3 = pc1) (h : sx_wp K0 ft df tf cst zs ks mt (d + 1) M pc1 lv (.ref x :: rest) hs dc ds P) : sx_wp K0 ft df tf cst zs ks mt d M' pc lv0 [.ref x] hs dc ds (sx_kont K0 ft df tf cst zs ks mt d M pc0 lv rest i0 P) := by
  subst hp
  refine sx_wp.stop hI rfl (v := .inl (some (.ref x))) (hs1 := hs) (dc1 := 0) (ds1 := 0) ?_ h
  rw [hr]
  show (if sx_isRT ty = true ∧ 1 = 1 then _ else _) = _
  rw [if_pos ⟨hf, rfl⟩]
theorem w_nret {pc0 pc1 : Nat} {lv0 : List (Nat × Value)} {ty : FieldType} (hI : M'.2.2.2.2.2.2.1 pc = some (.areturn, 1, a, b)) (hr : M'.2.2.2.1 = some ty) (hf : sx_isRT ty = true) (hp : pc0 + 3 = pc1) (h : sx_wp K0 ft df tf cst zs ks mt (d + 1) M pc1 lv (.null :: rest) hs dc ds P) : sx_wp K0 ft df tf cst zs ks mt d M' pc lv0 [.null] hs dc ds (sx_kont K0 ft df tf cst zs ks mt d M pc0 lv rest i0 P) := by
  subst hp
  refine sx_wp.stop hI rfl (v := .inl (some .null)) (hs1 := hs) (dc1 := 0) (ds1 := 0) ?_ h
  rw [hr]
  show (if sx_isRT ty = true ∧ 1 = 1 then _ else _) = _
  rw [if_pos ⟨hf, rfl⟩]
theorem sx_lastC {c : sx_C} : (hs ++ [c])[hs.length]? = some c := by
  rw [List.getElem?_append_right (Nat.le_refl _), Nat.sub_self]
  rfl
/-- a throw that the caller catches -/
theorem w_thr {pc0 x h9 dc2 ds2 : Nat} {lv0 : List (Nat × Value)} {hs1 : sx_H} (hI : M'.2.2.2.2.2.2.1 pc = some (i, len, a, b)) (h4 : sx_kd i b = 4) (h6 : Nat.ble 6 d = true) (h8 : Nat.ble (sx_cats st) 8 = true) (hx : hs.length = x) (hh : hs ++ [.inr (.inr a)] = hs1) (hf : sx_find M.2.2.2.2.2.2.2 pc0 a = some h9) (hK : Nat.ble K0 x = true) (hv : sx_isV i0 = true) (h1 : dc + 1 = dc2) (h2 : ds + 6 = ds2) (h : sx_wp K0 ft df tf cst zs ks mt (d + 1) M h9 lv [.ref x] hs1 dc2 ds2 P) : sx_wp K0 ft df tf cst zs ks mt d M' pc lv0 st hs dc ds (sx_kont K0 ft df tf cst zs ks mt d M pc0 lv rest i0 P) := by
  subst hx
  subst hh
  subst h1
  subst h2
  exact sx_wp.throw hI h4 ⟨Nat.le_of_ble_eq_true h6, Nat.le_of_ble_eq_true h8⟩ ⟨a, h9, sx_lastC, hf, ⟨Nat.le_of_ble_eq_true hK, hv⟩, h⟩
theorem sx_bb_T {off : Int} {pc1 : Nat} {r : List Value} (hp : (pc : Int) + off = (pc1 : Int)) : ((sx_bb pc off lv r true).bind fun F => some (F, hs, 0, 0)) = some ((pc1, lv, r), hs, 0, 0) := by
  unfold sx_bb
  rw [if_pos (by omega), if_pos rfl, hp]
  rfl
theorem sx_bb_F {off : Int} {r : List Value} (hz : 0 ≤ (pc : Int) + off) : ((sx_bb pc off lv r false).bind fun F => some (F, hs, 0, 0)) = some ((pc + 3, lv, r), hs, 0, 0) := by
  unfold sx_bb
  rw [if_pos hz, if_neg (by decide)]
  rfl
theorem w_ieq_T {x y : Int32} {r : List Value} {off : Int} {pc1 : Nat} (hI : M.2.2.2.2.2.2.1 pc = some (.if_icmp .eq off, 3, a, b)) (hp : (pc : Int) + off = (pc1 : Int)) (h : x.toInt = y.toInt) (hk : sx_wp K0 ft df tf cst zs ks mt d M pc1 lv r hs dc ds P) : sx_wp K0 ft df tf cst zs ks mt d M pc lv (.int y :: .int x :: r) hs dc ds P := by
  refine w_mv hI rfl ?_ hk
  show ((sx_bb pc off lv r (decide (x = y))).bind fun F => some (F, hs, 0, 0)) = _
  rw [show decide (x = y) = true from decide_eq_true (Int32.toInt_inj.mp h)]
  exact sx_bb_T hp
theorem w_ieq_F {x y : Int32} {r : List Value} {off : Int} {pc1 : Nat} (hI : M.2.2.2.2.2.2.1 pc = some (.if_icmp .eq off, 3, a, b)) (hz : 0 ≤ (pc : Int) + off) (hp : pc + 3 = pc1) (h : x.toInt ≠ y.toInt) (hk : sx_wp K0 ft df tf cst zs ks mt d M pc1 lv r hs dc ds P) : sx_wp K0 ft df tf cst zs ks mt d M pc lv (.int y :: .int x :: r) hs dc ds P := by
  subst hp
  refine w_mv hI rfl ?_ hk
  show ((sx_bb pc off lv r (decide (x = y))).bind fun F => some (F, hs, 0, 0)) = _
  rw [show decide (x = y) = false from decide_eq_false (fun e => h (Int32.toInt_inj.mpr e))]
  exact sx_bb_F hz
theorem w_zeq_T {x : Int32} {r : List Value} {off : Int} {pc1 : Nat} (hI : M.2.2.2.2.2.2.1 pc = some (.ifCond .eq off, 3, a, b)) (hp : (pc : Int) + off = (pc1 : Int)) (h : x.toInt = 0) (hk : sx_wp K0 ft df tf cst zs ks mt d M pc1 lv r hs dc ds P) : sx_wp K0 ft df tf cst zs ks mt d M pc lv (.int x :: r) hs dc ds P := by
  refine w_mv hI rfl ?_ hk
  show ((sx_bb pc off lv r (decide (x = 0))).bind fun F => some (F, hs, 0, 0)) = _
  rw [show decide (x = 0) = true from decide_eq_true (Int32.toInt_inj.mp h)]
  exact sx_bb_T hp
theorem w_zeq_F {x : Int32} {r : List Value} {off : Int} {pc1 : Nat} (hI : M.2.2.2.2.2.2.1 pc = some (.ifCond .eq off, 3, a, b)) (hz : 0 ≤ (pc : Int) + off) (hp : pc + 3 = pc1) (h : x.toInt ≠ 0) (hk : sx_wp K0 ft df tf cst zs ks mt d M pc1 lv r hs dc ds P) : sx_wp K0 ft df tf cst zs ks mt d M pc lv (.int x :: r) hs dc ds P := by
  subst hp
  refine w_mv hI rfl ?_ hk
  show ((sx_bb pc off lv r (decide (x = 0))).bind fun F => some (F, hs, 0, 0)) = _
  rw [show decide (x = 0) = false from decide_eq_false (fun e => h (Int32.toInt_inj.mpr e))]
  exact sx_bb_F hz
theorem w_ine_T {x y : Int32} {r : List Value} {off : Int} {pc1 : Nat} (hI : M.2.2.2.2.2.2.1 pc = some (.if_icmp .ne off, 3, a, b)) (hp : (pc : Int) + off = (pc1 : Int)) (h : x.toInt ≠ y.toInt) (hk : sx_wp K0 ft df tf cst zs ks mt d M pc1 lv r hs dc ds P) : sx_wp K0 ft df tf cst zs ks mt d M pc lv (.int y :: .int x :: r) hs dc ds P := by
  refine w_mv hI rfl ?_ hk
  show ((sx_bb pc off lv r (decide (¬ x = y))).bind fun F => some (F, hs, 0, 0)) = _
  rw [show decide (¬ x = y) = true from decide_eq_true (fun e => h (Int32.toInt_inj.mpr e))]
  exact sx_bb_T hp
theorem w_ine_F {x y : Int32} {r : List Value} {off : Int} {pc1 : Nat} (hI : M.2.2.2.2.2.2.1 pc = some (.if_icmp .ne off, 3, a, b)) (hz : 0 ≤ (pc : Int) + off) (hp : pc + 3 = pc1) (h : x.toInt = y.toInt) (hk : sx_wp K0 ft df tf cst zs ks mt d M pc1 lv r hs dc ds P) : sx_wp K0 ft df tf cst zs ks mt d M pc lv (.int y :: .int x :: r) hs dc ds P := by
  subst hp
  refine w_mv hI rfl ?_ hk
  show ((sx_bb pc off lv r (decide (¬ x = y))).bind fun F => some (F, hs, 0, 0)) = _
  rw [show decide (¬ x = y) = false from decide_eq_false (fun e => e (Int32.toInt_inj.mp h))]
  exact sx_bb_F hz
theorem w_zne_T {x : Int32} {r : List Value} {off : Int} {pc1 : Nat} (hI : M.2.2.2.2.2.2.1 pc = some (.ifCond .ne off, 3, a, b)) (hp : (pc : Int) + off = (pc1 : Int)) (h : x.toInt ≠ 0) (hk : sx_wp K0 ft df tf cst zs ks mt d M pc1 lv r hs dc ds P) : sx_wp K0 ft df tf cst zs ks mt d M pc lv (.int x :: r) hs dc ds P := by
  refine w_mv hI rfl ?_ hk
  show ((sx_bb pc off lv r (decide (¬ x = 0))).bind fun F => some (F, hs, 0, 0)) = _
  rw [show decide (¬ x = 0) = true from decide_eq_true (fun e => h (Int32.toInt_inj.mpr e))]
  exact sx_bb_T hp
theorem w_zne_F {x : Int32} {r : List Value} {off : Int} {pc1 : Nat} (hI : M.2.2.2.2.2.2.1 pc = some (.ifCond .ne off, 3, a, b)) (hz : 0 ≤ (pc : Int) + off) (hp : pc + 3 = pc1) (h : x.toInt = 0) (hk : sx_wp K0 ft df tf cst zs ks mt d M pc1 lv r hs dc ds P) : sx_wp K0 ft df tf cst zs ks mt d M pc lv (.int x :: r) hs dc ds P := by
  subst hp
  refine w_mv hI rfl ?_ hk
  show ((sx_bb pc off lv r (decide (¬ x = 0))).bind fun F => some (F, hs, 0, 0)) = _
  rw [show decide (¬ x = 0) = false from decide_eq_false (fun e => e (Int32.toInt_inj.mp h))]
  exact sx_bb_F hz
theorem w_ilt_T {x y : Int32} {r : List Value} {off : Int} {pc1 : Nat} (hI : M.2.2.2.2.2.2.1 pc = some (.if_icmp .lt off, 3, a, b)) (hp : (pc : Int) + off = (pc1 : Int)) (h : x.toInt < y.toInt) (hk : sx_wp K0 ft df tf cst zs ks mt d M pc1 lv r hs dc ds P) : sx_wp K0 ft df tf cst zs ks mt d M pc lv (.int y :: .int x :: r) hs dc ds P := by
  refine w_mv hI rfl ?_ hk
  show ((sx_bb pc off lv r (decide (x < y))).bind fun F => some (F, hs, 0, 0)) = _
  rw [show decide (x < y) = true from decide_eq_true (Int32.lt_iff_toInt_lt.mpr h)]
  exact sx_bb_T hp
theorem w_ilt_F {x y : Int32} {r : List Value} {off : Int} {pc1 : Nat} (hI : M.2.2.2.2.2.2.1 pc = some (.if_icmp .lt off, 3, a, b)) (hz : 0 ≤ (pc : Int) + off) (hp : pc + 3 = pc1) (h : y.toInt ≤ x.toInt) (hk : sx_wp K0 ft df tf cst zs ks mt d M pc1 lv r hs dc ds P) : sx_wp K0 ft df tf cst zs ks mt d M pc lv (.int y :: .int x :: r) hs dc ds P := by
  subst hp
  refine w_mv hI rfl ?_ hk
  show ((sx_bb pc off lv r (decide (x < y))).bind fun F => some (F, hs, 0, 0)) = _
  rw [show decide (x < y) = false from decide_eq_false (fun e => Int.not_lt.mpr h (Int32.lt_iff_toInt_lt.mp e))]
  exact sx_bb_F hz
theorem w_zlt_T {x : Int32} {r : List Value} {off : Int} {pc1 : Nat} (hI : M.2.2.2.2.2.2.1 pc = some (.ifCond .lt off, 3, a, b)) (hp : (pc : Int) + off = (pc1 : Int)) (h : x.toInt < 0) (hk : sx_wp K0 ft df tf cst zs ks mt d M pc1 lv r hs dc ds P) : sx_wp K0 ft df tf cst zs ks mt d M pc lv (.int x :: r) hs dc ds P := by
  refine w_mv hI rfl ?_ hk
  show ((sx_bb pc off lv r (decide (x < 0))).bind fun F => some (F, hs, 0, 0)) = _
  rw [show decide (x < 0) = true from decide_eq_true (Int32.lt_iff_toInt_lt.mpr h)]
  exact sx_bb_T hp
theorem w_zlt_F {x : Int32} {r : List Value} {off : Int} {pc1 : Nat} (hI : M.2.2.2.2.2.2.1 pc = some (.ifCond .lt off, 3, a, b)) (hz : 0 ≤ (pc : Int) + off) (hp : pc + 3 = pc1) (h : 0 ≤ x.toInt) (hk : sx_wp K0 ft df tf cst zs ks mt d M pc1 lv r hs dc ds P) : sx_wp K0 ft df tf cst zs ks mt d M pc lv (.int x :: r) hs dc ds P := by
  subst hp
  refine w_mv hI rfl ?_ hk
  show ((sx_bb pc off lv r (decide (x < 0))).bind fun F => some (F, hs, 0, 0)) = _
  rw [show decide (x < 0) = false from decide_eq_false (fun e => Int.not_lt.mpr h (Int32.lt_iff_toInt_lt.mp e))]
  exact sx_bb_F hz
theorem w_ige_T {x y : Int32} {r : List Value} {off : Int} {pc1 : Nat} (hI : M.2.2.2.2.2.2.1 pc = some (.if_icmp .ge off, 3, a, b)) (hp : (pc : Int) + off = (pc1 : Int)) (h : y.toInt ≤ x.toInt) (hk : sx_wp K0 ft df tf cst zs ks mt d M pc1 lv r hs dc ds P) : sx_wp K0 ft df tf cst zs ks mt d M pc lv (.int y :: .int x :: r) hs dc ds P := by
  refine w_mv hI rfl ?_ hk
  show ((sx_bb pc off lv r (decide (y ≤ x))).bind fun F => some (F, hs, 0, 0)) = _
  rw [show decide (y ≤ x) = true from decide_eq_true (Int32.le_iff_toInt_le.mpr h)]
  exact sx_bb_T hp
theorem w_ige_F {x y : Int32} {r : List Value} {off : Int} {pc1 : Nat} (hI : M.2.2.2.2.2.2.1 pc = some (.if_icmp .ge off, 3, a, b)) (hz : 0 ≤ (pc : Int) + off) (hp : pc + 3 = pc1) (h : x.toInt < y.toInt) (hk : sx_wp K0 ft df tf cst zs ks mt d M pc1 lv r hs dc ds P) : sx_wp K0 ft df tf cst zs ks mt d M pc lv (.int y :: .int x :: r) hs dc ds P := by
  subst hp
  refine w_mv hI rfl ?_ hk
  show ((sx_bb pc off lv r (decide (y ≤ x))).bind fun F => some (F, hs, 0, 0)) = _
  rw [show decide (y ≤ x) = false from decide_eq_false (fun e => Int.not_le.mpr h (Int32.le_iff_toInt_le.mp e))]
  exact sx_bb_F hz
theorem w_zge_T {x : Int32} {r : List Value} {off : Int} {pc1 : Nat} (hI : M.2.2.2.2.2.2.1 pc = some (.ifCond .ge off, 3, a, b)) (hp : (pc : Int) + off = (pc1 : Int)) (h : 0 ≤ x.toInt) (hk : sx_wp K0 ft df tf cst zs ks mt d M pc1 lv r hs dc ds P) : sx_wp K0 ft df tf cst zs ks mt d M pc lv (.int x :: r) hs dc ds P := by
  refine w_mv hI rfl ?_ hk
  show ((sx_bb pc off lv r (decide (0 ≤ x))).bind fun F => some (F, hs, 0, 0)) = _
  rw [show decide (0 ≤ x) = true from decide_eq_true (Int32.le_iff_toInt_le.mpr h)]
  exact sx_bb_T hp
theorem w_zge_F {x : Int32} {r : List Value} {off : Int} {pc1 : Nat} (hI : M.2.2.2.2.2.2.1 pc = some (.ifCond .ge off, 3, a, b)) (hz : 0 ≤ (pc : Int) + off) (hp : pc + 3 = pc1) (h : x.toInt < 0) (hk : sx_wp K0 ft df tf cst zs ks mt d M pc1 lv r hs dc ds P) : sx_wp K0 ft df tf cst zs ks mt d M pc lv (.int x :: r) hs dc ds P := by
  subst hp
  refine w_mv hI rfl ?_ hk
  show ((sx_bb pc off lv r (decide (0 ≤ x))).bind fun F => some (F, hs, 0, 0)) = _
  rw [show decide (0 ≤ x) = false from decide_eq_false (fun e => Int.not_le.mpr h (Int32.le_iff_toInt_le.mp e))]
  exact sx_bb_F hz
theorem w_igt_T {x y : Int32} {r : List Value} {off : Int} {pc1 : Nat} (hI : M.2.2.2.2.2.2.1 pc = some (.if_icmp .gt off, 3, a, b)) (hp : (pc : Int) + off = (pc1 : Int)) (h : y.toInt < x.toInt) (hk : sx_wp K0 ft df tf cst zs ks mt d M pc1 lv r hs dc ds P) : sx_wp K0 ft df tf cst zs ks mt d M pc lv (.int y :: .int x :: r) hs dc ds P := by
  refine w_mv hI rfl ?_ hk
  show ((sx_bb pc off lv r (decide (y < x))).bind fun F => some (F, hs, 0, 0)) = _
  rw [show decide (y < x) = true from decide_eq_true (Int32.lt_iff_toInt_lt.mpr h)]
  exact sx_bb_T hp
theorem w_igt_F {x y : Int32} {r : List Value} {off : Int} {pc1 : Nat} (hI : M.2.2.2.2.2.2.1 pc = some (.if_icmp .gt off, 3, a, b)) (hz : 0 ≤ (pc : Int) + off) (hp : pc + 3 = pc1) (h : x.toInt ≤ y.toInt) (hk : sx_wp K0 ft df tf cst zs ks mt d M pc1 lv r hs dc ds P) : sx_wp K0 ft df tf cst zs ks mt d M pc lv (.int y :: .int x :: r) hs dc ds P := by
  subst hp
  refine w_mv hI rfl ?_ hk
  show ((sx_bb pc off lv r (decide (y < x))).bind fun F => some (F, hs, 0, 0)) = _
  rw [show decide (y < x) = false from decide_eq_false (fun e => Int.not_lt.mpr h (Int32.lt_iff_toInt_lt.mp e))]
  exact sx_bb_F hz
theorem w_zgt_T {x : Int32} {r : List Value} {off : Int} {pc1 : Nat} (hI : M.2.2.2.2.2.2.1 pc = some (.ifCond .gt off, 3, a, b)) (hp : (pc : Int) + off = (pc1 : Int)) (h : 0 < x.toInt) (hk : sx_wp K0 ft df tf cst zs ks mt d M pc1 lv r hs dc ds P) : sx_wp K0 ft df tf cst zs ks mt d M pc lv (.int x :: r) hs dc ds P := by
  refine w_mv hI rfl ?_ hk
  show ((sx_bb pc off lv r (decide (0 < x))).bind fun F => some (F, hs, 0, 0)) = _
  rw [show decide (0 < x) = true from decide_eq_true (Int32.lt_iff_toInt_lt.mpr h)]
  exact sx_bb_T hp
theorem w_zgt_F {x : Int32} {r : List Value} {off : Int} {pc1 : Nat} (hI : M.2.2.2.2.2.2.1 pc = some (.ifCond .gt off, 3, a, b)) (hz : 0 ≤ (pc : Int) + off) (hp : pc + 3 = pc1) (h : x.toInt ≤ 0) (hk : sx_wp K0 ft df tf cst zs ks mt d M pc1 lv r hs dc ds P) : sx_wp K0 ft df tf cst zs ks mt d M pc lv (.int x :: r) hs dc ds P := by
  subst hp
  refine w_mv hI rfl ?_ hk
  show ((sx_bb pc off lv r (decide (0 < x))).bind fun F => some (F, hs, 0, 0)) = _
  rw [show decide (0 < x) = false from decide_eq_false (fun e => Int.not_lt.mpr h (Int32.lt_iff_toInt_lt.mp e))]
  exact sx_bb_F hz
theorem w_ile_T {x y : Int32} {r : List Value} {off : Int} {pc1 : Nat} (hI : M.2.2.2.2.2.2.1 pc = some (.if_icmp .le off, 3, a, b)) (hp : (pc : Int) + off = (pc1 : Int)) (h : x.toInt ≤ y.toInt) (hk : sx_wp K0 ft df tf cst zs ks mt d M pc1 lv r hs dc ds P) : sx_wp K0 ft df tf cst zs ks mt d M pc lv (.int y :: .int x :: r) hs dc ds P := by
  refine w_mv hI rfl ?_ hk
  show ((sx_bb pc off lv r (decide (x ≤ y))).bind fun F => some (F, hs, 0, 0)) = _
  rw [show decide (x ≤ y) = true from decide_eq_true (Int32.le_iff_toInt_le.mpr h)]
  exact sx_bb_T hp
theorem w_ile_F {x y : Int32} {r : List Value} {off : Int} {pc1 : Nat} (hI : M.2.2.2.2.2.2.1 pc = some (.if_icmp .le off, 3, a, b)) (hz : 0 ≤ (pc : Int) + off) (hp : pc + 3 = pc1) (h : y.toInt < x.toInt) (hk : sx_wp K0 ft df tf cst zs ks mt d M pc1 lv r hs dc ds P) : sx_wp K0 ft df tf cst zs ks mt d M pc lv (.int y :: .int x :: r) hs dc ds P := by
  subst hp
  refine w_mv hI rfl ?_ hk
  show ((sx_bb pc off lv r (decide (x ≤ y))).bind fun F => some (F, hs, 0, 0)) = _
  rw [show decide (x ≤ y) = false from decide_eq_false (fun e => Int.not_le.mpr h (Int32.le_iff_toInt_le.mp e))]
  exact sx_bb_F hz
theorem w_zle_T {x : Int32} {r : List Value} {off : Int} {pc1 : Nat} (hI : M.2.2.2.2.2.2.1 pc = some (.ifCond .le off, 3, a, b)) (hp : (pc : Int) + off = (pc1 : Int)) (h : x.toInt ≤ 0) (hk : sx_wp K0 ft df tf cst zs ks mt d M pc1 lv r hs dc ds P) : sx_wp K0 ft df tf cst zs ks mt d M pc lv (.int x :: r) hs dc ds P := by
  refine w_mv hI rfl ?_ hk
  show ((sx_bb pc off lv r (decide (x ≤ 0))).bind fun F => some (F, hs, 0, 0)) = _
  rw [show decide (x ≤ 0) = true from decide_eq_true (Int32.le_iff_toInt_le.mpr h)]
  exact sx_bb_T hp
theorem w_zle_F {x : Int32} {r : List Value} {off : Int} {pc1 : Nat} (hI : M.2.2.2.2.2.2.1 pc = some (.ifCond .le off, 3, a, b)) (hz : 0 ≤ (pc : Int) + off) (hp : pc + 3 = pc1) (h : 0 < x.toInt) (hk : sx_wp K0 ft df tf cst zs ks mt d M pc1 lv r hs dc ds P) : sx_wp K0 ft df tf cst zs ks mt d M pc lv (.int x :: r) hs dc ds P := by
  subst hp
  refine w_mv hI rfl ?_ hk
  show ((sx_bb pc off lv r (decide (x ≤ 0))).bind fun F => some (F, hs, 0, 0)) = _
  rw [show decide (x ≤ 0) = false from decide_eq_false (fun e => Int.not_le.mpr h (Int32.le_iff_toInt_le.mp e))]
  exact sx_bb_F hz
/-- the top of the stack is what it is said to be -/
theorem w_top {x y : Int32} (h : x = y) (hk : sx_wp K0 ft df tf cst zs ks mt d M pc lv (.int y :: st) hs dc ds P) : sx_wp K0 ft df tf cst zs ks mt d M pc lv (.int x :: st) hs dc ds P := by
  subst h
  exact hk
/-- a switch whose value isn't among its cases -/
theorem w_swO {x : Int32} {dd lo hi : Int} {offs : Array Int} {pc1 : Nat} (hI : M.2.2.2.2.2.2.1 pc = some (.tableswitch dd lo hi offs, len, a, b)) (hp : (pc : Int) + dd = (pc1 : Int)) (h : x.toInt < lo ∨ hi < x.toInt) (hk : sx_wp K0 ft df tf cst zs ks mt d M pc1 lv st hs dc ds P) : sx_wp K0 ft df tf cst zs ks mt d M pc lv (.int x :: st) hs dc ds P := by
  refine w_mv hI rfl ?_ hk
  show ((if x.toInt < lo ∨ hi < x.toInt then sx_jp pc dd lv st else _).bind fun F => some (F, hs, 0, 0)) = _
  rw [if_pos h]
  unfold sx_jp
  rw [if_pos (by omega), hp]
  rfl
/-- a store to an array at a place that isn't known -/
theorem w_ast {x t n pc1 : Nat} {hs1 : sx_H} {f : Nat → Int32} {ty : FieldType} {nw : Int32 → Int32} {w v : Int32} {r : List Value} (hI : M.2.2.2.2.2.2.1 pc = some (i, len, a, b)) (h0 : sx_kd i b = 0) (hE : sx_hs K0 ft df tf cst zs ks M.2.2.1 i len a b pc lv (.int v :: .int w :: .ref x :: r) hs = sx_oast K0 tf ty nw pc lv (.int v :: .int w :: .ref x :: r) hs) (ho : sx_arr hs x = some (t, (n, .inl f))) (ht : tf t = ty) (hK : Nat.ble K0 x = true) (h1 : 0 ≤ w.toInt) (h2 : w.toInt < n) (hp : pc + 1 = pc1) (hh : hs.set x (.inl (t, (n, .inl (upd f w.toNatClampNeg (nw v))))) = hs1)
    (hk : sx_wp K0 ft df tf cst zs ks mt d M pc1 lv r hs1 dc ds P) : sx_wp K0 ft df tf cst zs ks mt d M pc lv (.int v :: .int w :: .ref x :: r) hs dc ds P := by
  subst hp
  subst hh
  refine sx_wp.step (pc1 := pc + 1) (lv1 := lv) (st1 := r) (dc1 := 0) (ds1 := 0) hI h0 (hE.trans ?_) hk
  show ((sx_arr hs x).bind fun o => (sx_ai o.2).bind fun f => if tf o.1 = ty ∧ K0 ≤ x ∧ ¬ (w < 0 ∨ o.2.1 ≤ w.toNatClampNeg) then some ((pc + 1, lv, r), hs.set x (.inl (o.1, (o.2.1, .inl (upd f w.toNatClampNeg (nw v))))), 0, 0) else none) = _
  rw [ho]
  show (if tf t = ty ∧ K0 ≤ x ∧ ¬ (w < 0 ∨ n ≤ w.toNatClampNeg) then some ((pc + 1, lv, r), hs.set x (.inl (t, (n, .inl (upd f w.toNatClampNeg (nw v))))), 0, 0) else none) = _
  refine if_pos ⟨ht, Nat.le_of_ble_eq_true hK, fun h => ?_⟩
  rcases h with h | h
  · have := Int32.lt_iff_toInt_lt.mp h
    have hz : (0 : Int32).toInt = 0 := by decide
    omega
  · have hz : w.toNatClampNeg = w.toInt.toNat := rfl
    omega
/-- a load from an array at a place that isn't known -/
theorem w_ald {x t pc1 : Nat} {A : vp_A} {w : Int32} {v : Value} {ok : FieldType → Bool} {r : List Value} (hI : M.2.2.2.2.2.2.1 pc = some (i, len, a, b)) (h0 : sx_kd i b = 0) (hE : sx_hs K0 ft df tf cst zs ks M.2.2.1 i len a b pc lv (.int w :: .ref x :: r) hs = sx_oald tf ok pc lv (.int w :: .ref x :: r) hs) (ho : sx_arr hs x = some (t, A)) (hok : ok (tf t) = true) (h1 : 0 ≤ w.toInt) (h2 : w.toInt < A.1) (hv : sx_val A w.toNatClampNeg = v) (hp : pc + 1 = pc1)
    (hk : sx_wp K0 ft df tf cst zs ks mt d M pc1 lv (v :: r) hs dc ds P) : sx_wp K0 ft df tf cst zs ks mt d M pc lv (.int w :: .ref x :: r) hs dc ds P := by
  subst hp
  subst hv
  refine w_mv hI h0 (hE.trans ?_) hk
  show ((sx_arr hs x).bind fun o => if ok (tf o.1) = true ∧ ¬ (w < 0 ∨ o.2.1 ≤ w.toNatClampNeg) then some ((pc + 1, lv, sx_val o.2 w.toNatClampNeg :: r), hs, 0, 0) else none) = _
  rw [ho]
  refine if_pos ⟨hok, fun h => ?_⟩
  rcases h with h | h
  · have := Int32.lt_iff_toInt_lt.mp h
    have hz : (0 : Int32).toInt = 0 := by decide
    omega
  · have hz : w.toNatClampNeg = w.toInt.toNat := rfl
    have h : A.1 ≤ w.toNatClampNeg := h
    omega
theorem w_lcE {x : Int64} {r : List Value} {pc1 : Nat} (hI : M.2.2.2.2.2.2.1 pc = some (.lcmp, 1, a, b)) (hp : pc + 1 = pc1) (hk : sx_wp K0 ft df tf cst zs ks mt d M pc1 lv (.int 0 :: r) hs dc ds P) : sx_wp K0 ft df tf cst zs ks mt d M pc lv (.long x :: .long x :: r) hs dc ds P := by
  subst hp
  refine w_mv hI rfl ?_ hk
  show some ((pc + 1, lv, .int (lg_cmp x x) :: r), hs, 0, 0) = _
  rw [show lg_cmp x x = 0 from by
    unfold lg_cmp
    rw [if_neg (fun h => Int64.lt_irrefl h), if_pos rfl]]
theorem w_kt {x x1 j h9 pc0 : Nat} {hs1 : sx_H} (hx : x = x1) (hh : hs = hs1) (hj : hs1[x1]? = some (.inr (.inr j))) (hf : sx_find M.2.2.2.2.2.2.2 pc0 j = some h9) (hK : Nat.ble K0 x1 = true) (hv : sx_isV i0 = true) (h : sx_wp K0 ft df tf cst zs ks mt (d + 1) M h9 lv [.ref x1] hs1 dc ds P) : sx_kont K0 ft df tf cst zs ks mt d M pc0 lv rest i0 P (.inr x) hs dc ds := by
  subst hx
  subst hh
  exact ⟨j, h9, hj, hf, ⟨Nat.le_of_ble_eq_true hK, hv⟩, h⟩
theorem w_kv {pc0 pc1 : Nat} (hp : pc0 + 3 = pc1) (h : sx_wp K0 ft df tf cst zs ks mt (d + 1) M pc1 lv rest hs dc ds P) : sx_kont K0 ft df tf cst zs ks mt d M pc0 lv rest i0 P (.inl none) hs dc ds := by
  subst hp
  exact h
end SXWK
