/-! THE ABSTRACT MACHINE sx: a frame is (pc, locals, stack); its references are places of an abstract heap, 'sx_up ua' turns them into addresses. This part: the instructions that touch no heap -/
abbrev sx_F : Type := Nat × List (Nat × Value) × List Value
def sx_up (ua : Nat → Nat) (v : Value) : Value := match v with
  | .ref k => .ref (ua k)
  | v => v
def sx_upL (ua : Nat → Nat) (l : List (Nat × Value)) : List (Nat × Value) := l.map (fun q => (q.1, sx_up ua q.2))
def sx_upS (ua : Nat → Nat) (st : List Value) : List Value := st.map (sx_up ua)
def sx_lk (l : List (Nat × Value)) (i : Nat) : Option Value := match l with
  | [] => none
  | q :: r => if q.1 = i then some q.2 else sx_lk r i
def sx_s1 (l : List (Nat × Value)) (i : Nat) (v : Value) : List (Nat × Value) := (i, v) :: l.filter (fun q => !(q.1 == i) && !(q.1 + 1 == i && q.2.category == 2))
def sx_s2 (l : List (Nat × Value)) (i : Nat) (v : Value) : List (Nat × Value) := (i, v) :: l.filter (fun q => !(q.1 == i) && (!(q.1 == i + 1) && !(q.1 + 1 == i && q.2.category == 2)))
def sx_ldI (pc n : Nat) (l : List (Nat × Value)) (st : List Value) (i : Nat) : Option sx_F := match sx_lk l i with
  | some (.int x) => some (pc + n, l, .int x :: st)
  | _ => none
def sx_ldL (pc n : Nat) (l : List (Nat × Value)) (st : List Value) (i : Nat) : Option sx_F := match sx_lk l i with
  | some (.long x) => some (pc + n, l, .long x :: st)
  | _ => none
def sx_ldA (pc n : Nat) (l : List (Nat × Value)) (st : List Value) (i : Nat) : Option sx_F := match sx_lk l i with
  | some (.ref a) => some (pc + n, l, .ref a :: st)
  | some .null => some (pc + n, l, .null :: st)
  | _ => none
def sx_svI (pc n nL : Nat) (l : List (Nat × Value)) (st : List Value) (i : Nat) : Option sx_F := match st with
  | .int x :: r => if i < nL then some (pc + n, sx_s1 l i (.int x), r) else none
  | _ => none
def sx_svL (pc n nL : Nat) (l : List (Nat × Value)) (st : List Value) (i : Nat) : Option sx_F := match st with
  | .long x :: r => if i + 1 < nL then some (pc + n, sx_s2 l i (.long x), r) else none
  | _ => none
def sx_svA (pc n nL : Nat) (l : List (Nat × Value)) (st : List Value) (i : Nat) : Option sx_F := match st with
  | .ref a :: r => if i < nL then some (pc + n, sx_s1 l i (.ref a), r) else none
  | .null :: r => if i < nL then some (pc + n, sx_s1 l i .null, r) else none
  | _ => none
def sx_inc (pc nL : Nat) (l : List (Nat × Value)) (st : List Value) (i : Nat) (n : Int) : Option sx_F := match sx_lk l i with
  | some (.int x) => if i < nL then some (pc + 3, sx_s1 l i (.int (x + Int32.ofInt n)), st) else none
  | _ => none
def sx_jp (pc : Nat) (off : Int) (l : List (Nat × Value)) (st : List Value) : Option sx_F :=
  if 0 ≤ (pc : Int) + off then some (((pc : Int) + off).toNat, l, st) else none
def sx_i1 (pc : Nat) (l : List (Nat × Value)) (st : List Value) (f : Int32 → Value) : Option sx_F := match st with
  | .int x :: r => some (pc + 1, l, f x :: r)
  | _ => none
def sx_l1 (pc : Nat) (l : List (Nat × Value)) (st : List Value) (f : Int64 → Value) : Option sx_F := match st with
  | .long x :: r => some (pc + 1, l, f x :: r)
  | _ => none
def sx_i2 (pc : Nat) (l : List (Nat × Value)) (st : List Value) (f : Int32 → Int32 → Value) : Option sx_F := match st with
  | .int y :: .int x :: r => some (pc + 1, l, f x y :: r)
  | _ => none
def sx_l2 (pc : Nat) (l : List (Nat × Value)) (st : List Value) (f : Int64 → Int64 → Value) : Option sx_F := match st with
  | .long y :: .long x :: r => some (pc + 1, l, f x y :: r)
  | _ => none
def sx_i2z (pc : Nat) (l : List (Nat × Value)) (st : List Value) (f : Int32 → Int32 → Value) : Option sx_F := match st with
  | .int y :: .int x :: r => if y = 0 then none else some (pc + 1, l, f x y :: r)
  | _ => none
def sx_l2z (pc : Nat) (l : List (Nat × Value)) (st : List Value) (f : Int64 → Int64 → Value) : Option sx_F := match st with
  | .long y :: .long x :: r => if y = 0 then none else some (pc + 1, l, f x y :: r)
  | _ => none
def sx_li (pc : Nat) (l : List (Nat × Value)) (st : List Value) (f : Int64 → Int32 → Value) : Option sx_F := match st with
  | .int y :: .long x :: r => some (pc + 1, l, f x y :: r)
  | _ => none
def sx_bb (pc : Nat) (off : Int) (l : List (Nat × Value)) (r : List Value) (b : Bool) : Option sx_F :=
  if 0 ≤ (pc : Int) + off then (if b = true then some (((pc : Int) + off).toNat, l, r) else some (pc + 3, l, r)) else none
def sx_b1 (pc : Nat) (off : Int) (l : List (Nat × Value)) (st : List Value) (f : Int32 → Bool) : Option sx_F := match st with
  | .int x :: r => sx_bb pc off l r (f x)
  | _ => none
def sx_b2 (pc : Nat) (off : Int) (l : List (Nat × Value)) (st : List Value) (f : Int32 → Int32 → Bool) : Option sx_F := match st with
  | .int y :: .int x :: r => sx_bb pc off l r (f x y)
  | _ => none
def sx_op (v : Value) : Option (Option Nat) := match v with
  | .ref a => if a = 4 then none else some (some a)
  | .null => some none
  | _ => none
def sx_b0 (pc : Nat) (off : Int) (l : List (Nat × Value)) (st : List Value) (eq : Bool) : Option sx_F := match st with
  | v :: w :: r => match sx_op v, sx_op w with
    | some y, some x => sx_bb pc off l r (decide (x = y) == eq)
    | _, _ => none
  | _ => none
def sx_bn (pc : Nat) (off : Int) (l : List (Nat × Value)) (st : List Value) (onNull : Bool) : Option sx_F := match st with
  | .ref _ :: r => sx_bb pc off l r (!onNull)
  | .null :: r => sx_bb pc off l r onNull
  | _ => none
def sx_lc (x y : Int64) : Value := .int (lg_cmp x y)
def sx_sw (pc : Nat) (l : List (Nat × Value)) (st : List Value) (d lo hi : Int) (offs : Array Int) : Option sx_F := match st with
  | .int x :: r => if x.toInt < lo ∨ hi < x.toInt then sx_jp pc d l r else (match offs[(x.toInt - lo).toNat]? with
    | some o => sx_jp pc o l r
    | none => none)
  | _ => none

/-- one instruction -/
def sx_pure (nL : Nat) (i : Instr) (len pc : Nat) (l : List (Nat × Value)) (st : List Value) : Option sx_F := match i with
  | .iconst n => if len = 1 then some (pc + 1, l, .int (Int32.ofInt n) :: st) else none
  | .bipush n => if len = 2 then some (pc + 2, l, .int (Int8.ofInt n).toInt32 :: st) else none
  | .sipush n => if len = 3 then some (pc + 3, l, .int (Int16.ofInt n).toInt32 :: st) else none
  | .lconst n => if len = 1 then some (pc + 1, l, .long (Int64.ofNat (n : Nat)) :: st) else none
  | .aconst_null => if len = 1 then some (pc + 1, l, .null :: st) else none
  | .iload_n n => if len = 1 then sx_ldI pc 1 l st n else none
  | .iload n => if len = 2 then sx_ldI pc 2 l st n else none
  | .lload_n n => if len = 1 then sx_ldL pc 1 l st n else none
  | .lload n => if len = 2 then sx_ldL pc 2 l st n else none
  | .aload_n n => if len = 1 then sx_ldA pc 1 l st n else none
  | .aload n => if len = 2 then sx_ldA pc 2 l st n else none
  | .istore_n n => if len = 1 then sx_svI pc 1 nL l st n else none
  | .istore n => if len = 2 then sx_svI pc 2 nL l st n else none
  | .lstore_n n => if len = 1 then sx_svL pc 1 nL l st n else none
  | .lstore n => if len = 2 then sx_svL pc 2 nL l st n else none
  | .astore_n n => if len = 1 then sx_svA pc 1 nL l st n else none
  | .astore n => if len = 2 then sx_svA pc 2 nL l st n else none
  | .iinc n k => if len = 3 then sx_inc pc nL l st n k else none
  | .pop => if len = 1 then (match st with
    | v :: r => if v.category = 1 then some (pc + 1, l, r) else none
    | [] => none) else none
  | .dup => if len = 1 then (match st with
    | v :: r => if v.category = 1 then some (pc + 1, l, v :: v :: r) else none
    | [] => none) else none
  | .dup_x1 => if len = 1 then (match st with
    | v :: w :: r => if v.category = 1 ∧ w.category = 1 then some (pc + 1, l, v :: w :: v :: r) else none
    | _ => none) else none
  | .dup2 => if len = 1 then (match st with
    | v :: w :: r => if v.category = 1 ∧ w.category = 1 then some (pc + 1, l, v :: w :: v :: w :: r) else none
    | _ => none) else none
  | .l2i => if len = 1 then sx_l1 pc l st (fun x => .int x.toInt32) else none
  | .lcmp => if len = 1 then sx_l2 pc l st sx_lc else none
  | .goto off => if len = 3 then sx_jp pc off l st else none
  | .if_acmp .eq off => if len = 3 then sx_b0 pc off l st true else none
  | .if_acmp .ne off => if len = 3 then sx_b0 pc off l st false else none
  | .ifnull off => if len = 3 then sx_bn pc off l st true else none
  | .ifnonnull off => if len = 3 then sx_bn pc off l st false else none
  | .tableswitch d lo hi offs => sx_sw pc l st d lo hi offs
  | .iadd => if len = 1 then sx_i2 pc l st (fun x y => .int (x + y)) else none
  | .isub => if len = 1 then sx_i2 pc l st (fun x y => .int (x - y)) else none
  | .imul => if len = 1 then sx_i2 pc l st (fun x y => .int (x * y)) else none
  | .iand => if len = 1 then sx_i2 pc l st (fun x y => .int (x &&& y)) else none
  | .ior => if len = 1 then sx_i2 pc l st (fun x y => .int (x ||| y)) else none
  | .ixor => if len = 1 then sx_i2 pc l st (fun x y => .int (x ^^^ y)) else none
  | .ishl => if len = 1 then sx_i2 pc l st (fun x y => .int (x <<< (y &&& 31))) else none
  | .ishr => if len = 1 then sx_i2 pc l st (fun x y => .int (x >>> (y &&& 31))) else none
  | .iushr => if len = 1 then sx_i2 pc l st (fun x y => .int ((x.toUInt32 >>> (y.toUInt32 &&& Int32.toUInt32 31)).toInt32)) else none
  | .ladd => if len = 1 then sx_l2 pc l st (fun x y => .long (x + y)) else none
  | .lsub => if len = 1 then sx_l2 pc l st (fun x y => .long (x - y)) else none
  | .lmul => if len = 1 then sx_l2 pc l st (fun x y => .long (x * y)) else none
  | .land => if len = 1 then sx_l2 pc l st (fun x y => .long (x &&& y)) else none
  | .lor => if len = 1 then sx_l2 pc l st (fun x y => .long (x ||| y)) else none
  | .lxor => if len = 1 then sx_l2 pc l st (fun x y => .long (x ^^^ y)) else none
  | .lushr => if len = 1 then sx_li pc l st (fun x y => .long ((x.toUInt64 >>> (y.toInt64.toUInt64 &&& Int64.toUInt64 63)).toInt64)) else none
  | .lshl => if len = 1 then sx_li pc l st (fun x y => .long (x <<< (y.toInt64 &&& 63))) else none
  | .lshr => if len = 1 then sx_li pc l st (fun x y => .long (x >>> (y.toInt64 &&& 63))) else none
  | .i2l => if len = 1 then sx_i1 pc l st (fun x => .long x.toInt64) else none
  | .i2b => if len = 1 then sx_i1 pc l st (fun x => .int x.toInt8.toInt32) else none
  | .i2s => if len = 1 then sx_i1 pc l st (fun x => .int x.toInt16.toInt32) else none
  | .i2c => if len = 1 then sx_i1 pc l st (fun x => .int (x.toUInt32 % 65536).toInt32) else none
  | .ineg => if len = 1 then sx_i1 pc l st (fun x => .int (-x)) else none
  | .lneg => if len = 1 then sx_l1 pc l st (fun x => .long (-x)) else none
  | .idiv => if len = 1 then sx_i2z pc l st (fun x y => .int (x / y)) else none
  | .irem => if len = 1 then sx_i2z pc l st (fun x y => .int (x - x / y * y)) else none
  | .ldiv => if len = 1 then sx_l2z pc l st (fun x y => .long (x / y)) else none
  | .lrem => if len = 1 then sx_l2z pc l st (fun x y => .long (x - x / y * y)) else none
  | .ifCond .eq off => if len = 3 then sx_b1 pc off l st (fun x => decide (x = 0)) else none
  | .ifCond .ne off => if len = 3 then sx_b1 pc off l st (fun x => decide (¬ x = 0)) else none
  | .ifCond .lt off => if len = 3 then sx_b1 pc off l st (fun x => decide (x < 0)) else none
  | .ifCond .ge off => if len = 3 then sx_b1 pc off l st (fun x => decide (0 ≤ x)) else none
  | .ifCond .gt off => if len = 3 then sx_b1 pc off l st (fun x => decide (0 < x)) else none
  | .ifCond .le off => if len = 3 then sx_b1 pc off l st (fun x => decide (x ≤ 0)) else none
  | .if_icmp .eq off => if len = 3 then sx_b2 pc off l st (fun x y => decide (x = y)) else none
  | .if_icmp .ne off => if len = 3 then sx_b2 pc off l st (fun x y => decide (¬ x = y)) else none
  | .if_icmp .lt off => if len = 3 then sx_b2 pc off l st (fun x y => decide (x < y)) else none
  | .if_icmp .ge off => if len = 3 then sx_b2 pc off l st (fun x y => decide (y ≤ x)) else none
  | .if_icmp .gt off => if len = 3 then sx_b2 pc off l st (fun x y => decide (y < x)) else none
  | .if_icmp .le off => if len = 3 then sx_b2 pc off l st (fun x y => decide (x ≤ y)) else none
  | _ => none
theorem sx_cat (ua : Nat → Nat) (v : Value) : (sx_up ua v).category = v.category := by cases v <;> rfl
theorem sx_lk_mem {l : List (Nat × Value)} {i : Nat} {v : Value} (h : sx_lk l i = some v) : (i, v) ∈ l := by
  induction l with
  | nil => simp [sx_lk] at h
  | cons q r ih =>
    unfold sx_lk at h
    by_cases hq : q.1 = i
    · rw [if_pos hq] at h
      cases h
      subst hq
      exact List.mem_cons_self
    · rw [if_neg hq] at h
      exact List.mem_cons_of_mem _ (ih h)
theorem sx_at {ua : Nat → Nat} {ls : Array Slot} {nL : Nat} {l : List (Nat × Value)} (hl : lv_has ls nL (sx_upL ua l)) {i : Nat} {v : Value} (h : sx_lk l i = some v) : ls[i]? = some (.val (sx_up ua v)) :=
  hl.2.2 (i, sx_up ua v) (List.mem_map.mpr ⟨(i, v), sx_lk_mem h, rfl⟩)
theorem sx_at' {ua : Nat → Nat} {l : List (Nat × Value)} {i : Nat} {v : Value} (h : sx_lk l i = some v) : ∃ k : Nat, (sx_upL ua l)[k]? = some (i, sx_up ua v) :=
  List.getElem?_of_mem (List.mem_map.mpr ⟨(i, v), sx_lk_mem h, rfl⟩)
theorem sx_up_s1 (ua : Nat → Nat) (l : List (Nat × Value)) (i : Nat) (v : Value) : (i, sx_up ua v) :: (sx_upL ua l).filter (fun q => !(q.1 == i) && !(q.1 + 1 == i && q.2.category == 2)) = sx_upL ua (sx_s1 l i v) := by
  simp only [sx_upL, sx_s1, List.map_cons, List.filter_map]
  congr 2
  refine List.filter_congr (fun q _ => ?_)
  simp [Function.comp, sx_cat]
theorem sx_up_s2 (ua : Nat → Nat) (l : List (Nat × Value)) (i : Nat) (v : Value) : (i, sx_up ua v) :: (sx_upL ua l).filter (fun q => !(q.1 == i) && (!(q.1 == i + 1) && !(q.1 + 1 == i && q.2.category == 2))) = sx_upL ua (sx_s2 l i v) := by
  simp only [sx_upL, sx_s2, List.map_cons, List.filter_map]
  congr 2
  refine List.filter_congr (fun q _ => ?_)
  simp [Function.comp, sx_cat]
section SXP
variable {p : Program} {l : Launch} {e : Env} {R : Room} {s : State} {m : MethodId} {args : Array Value} {below : List Frame} {meth : Method} {c : Code} {H : Heap} {locs : List Loc} {cells slots : Nat} {Q : State → Prop}
variable {cc : ByteArray} {pc nL : Nat} {ua : Nat → Nat} {ls : Array Slot} {lv : List (Nat × Value)} {st : List Value} {F : sx_F}

theorem sx_jp_inv {off : Int} (h : sx_jp pc off lv st = some F) : ∃ t : Nat, (pc : Int) + off = (t : Int) ∧ F = (t, lv, st) := by
  unfold sx_jp at h
  by_cases hz : 0 ≤ (pc : Int) + off
  · rw [if_pos hz] at h
    cases h
    exact ⟨((pc : Int) + off).toNat, (Int.toNat_of_nonneg hz).symm, rfl⟩
  · rw [if_neg hz] at h
    cases h
theorem sx_bb_inv {off : Int} {r : List Value} {b : Bool} (h : sx_bb pc off lv r b = some F) : ∃ t : Nat, (pc : Int) + off = (t : Int) ∧ ((b = true ∧ F = (t, lv, r)) ∨ (b = false ∧ F = (pc + 3, lv, r))) := by
  unfold sx_bb at h
  by_cases hz : 0 ≤ (pc : Int) + off
  · rw [if_pos hz] at h
    refine ⟨((pc : Int) + off).toNat, (Int.toNat_of_nonneg hz).symm, ?_⟩
    cases b with
    | true =>
      rw [if_pos rfl] at h
      cases h
      exact Or.inl ⟨rfl, rfl⟩
    | false =>
      rw [if_neg (by decide)] at h
      cases h
      exact Or.inr ⟨rfl, rfl⟩
  · rw [if_neg hz] at h
    cases h
theorem sx_b1_inv {off : Int} {f : Int32 → Bool} (h : sx_b1 pc off lv st f = some F) : ∃ (x : Int32) (r : List Value), st = .int x :: r ∧ ∃ t : Nat, (pc : Int) + off = (t : Int) ∧ ((f x = true ∧ F = (t, lv, r)) ∨ (f x = false ∧ F = (pc + 3, lv, r))) := by
  unfold sx_b1 at h
  split at h
  · exact ⟨_, _, rfl, sx_bb_inv h⟩
  · cases h
theorem sx_b2_inv {off : Int} {f : Int32 → Int32 → Bool} (h : sx_b2 pc off lv st f = some F) : ∃ (x y : Int32) (r : List Value), st = .int y :: .int x :: r ∧ ∃ t : Nat, (pc : Int) + off = (t : Int) ∧ ((f x y = true ∧ F = (t, lv, r)) ∨ (f x y = false ∧ F = (pc + 3, lv, r))) := by
  unfold sx_b2 at h
  split at h
  · exact ⟨_, _, _, rfl, sx_bb_inv h⟩
  · cases h
theorem sx_i2_inv {f : Int32 → Int32 → Value} (h : sx_i2 pc lv st f = some F) : ∃ (x y : Int32) (r : List Value), st = .int y :: .int x :: r ∧ F = (pc + 1, lv, f x y :: r) := by
  unfold sx_i2 at h
  split at h
  · cases h
    exact ⟨_, _, _, rfl, rfl⟩
  · cases h
theorem sx_l2_inv {f : Int64 → Int64 → Value} (h : sx_l2 pc lv st f = some F) : ∃ (x y : Int64) (r : List Value), st = .long y :: .long x :: r ∧ F = (pc + 1, lv, f x y :: r) := by
  unfold sx_l2 at h
  split at h
  · cases h
    exact ⟨_, _, _, rfl, rfl⟩
  · cases h
theorem sx_i2z_inv {f : Int32 → Int32 → Value} (h : sx_i2z pc lv st f = some F) : ∃ (x y : Int32) (r : List Value), st = .int y :: .int x :: r ∧ ¬ y = 0 ∧ F = (pc + 1, lv, f x y :: r) := by
  unfold sx_i2z at h
  split at h
  · split at h
    · cases h
    · rename_i hz
      cases h
      exact ⟨_, _, _, rfl, hz, rfl⟩
  · cases h
theorem sx_l2z_inv {f : Int64 → Int64 → Value} (h : sx_l2z pc lv st f = some F) : ∃ (x y : Int64) (r : List Value), st = .long y :: .long x :: r ∧ ¬ y = 0 ∧ F = (pc + 1, lv, f x y :: r) := by
  unfold sx_l2z at h
  split at h
  · split at h
    · cases h
    · rename_i hz
      cases h
      exact ⟨_, _, _, rfl, hz, rfl⟩
  · cases h
theorem sx_li_inv {f : Int64 → Int32 → Value} (h : sx_li pc lv st f = some F) : ∃ (x : Int64) (y : Int32) (r : List Value), st = .int y :: .long x :: r ∧ F = (pc + 1, lv, f x y :: r) := by
  unfold sx_li at h
  split at h
  · cases h
    exact ⟨_, _, _, rfl, rfl⟩
  · cases h
theorem sx_i1_inv {f : Int32 → Value} (h : sx_i1 pc lv st f = some F) : ∃ (x : Int32) (r : List Value), st = .int x :: r ∧ F = (pc + 1, lv, f x :: r) := by
  unfold sx_i1 at h
  split at h
  · cases h
    exact ⟨_, _, rfl, rfl⟩
  · cases h
theorem sx_l1_inv {f : Int64 → Value} (h : sx_l1 pc lv st f = some F) : ∃ (x : Int64) (r : List Value), st = .long x :: r ∧ F = (pc + 1, lv, f x :: r) := by
  unfold sx_l1 at h
  split at h
  · cases h
    exact ⟨_, _, rfl, rfl⟩
  · cases h
theorem sx_ldI_inv {n i : Nat} (h : sx_ldI pc n lv st i = some F) : ∃ x : Int32, sx_lk lv i = some (.int x) ∧ F = (pc + n, lv, .int x :: st) := by
  unfold sx_ldI at h
  split at h
  · rename_i x hx
    cases h
    exact ⟨x, hx, rfl⟩
  · cases h
theorem sx_ldL_inv {n i : Nat} (h : sx_ldL pc n lv st i = some F) : ∃ x : Int64, sx_lk lv i = some (.long x) ∧ F = (pc + n, lv, .long x :: st) := by
  unfold sx_ldL at h
  split at h
  · rename_i x hx
    cases h
    exact ⟨x, hx, rfl⟩
  · cases h
theorem sx_ldA_inv {n i : Nat} (h : sx_ldA pc n lv st i = some F) : (∃ x : Nat, sx_lk lv i = some (.ref x) ∧ F = (pc + n, lv, .ref x :: st)) ∨ (sx_lk lv i = some .null ∧ F = (pc + n, lv, .null :: st)) := by
  unfold sx_ldA at h
  split at h
  · rename_i x hx
    cases h
    exact Or.inl ⟨x, hx, rfl⟩
  · rename_i hx
    cases h
    exact Or.inr ⟨hx, rfl⟩
  · cases h
theorem sx_svI_inv {n i : Nat} (h : sx_svI pc n nL lv st i = some F) : ∃ (x : Int32) (r : List Value), st = .int x :: r ∧ i < nL ∧ F = (pc + n, sx_s1 lv i (.int x), r) := by
  unfold sx_svI at h
  split at h
  · rename_i x r
    by_cases hi : i < nL
    · rw [if_pos hi] at h
      cases h
      exact ⟨x, r, rfl, hi, rfl⟩
    · rw [if_neg hi] at h
      cases h
  · cases h
theorem sx_svL_inv {n i : Nat} (h : sx_svL pc n nL lv st i = some F) : ∃ (x : Int64) (r : List Value), st = .long x :: r ∧ i + 1 < nL ∧ F = (pc + n, sx_s2 lv i (.long x), r) := by
  unfold sx_svL at h
  split at h
  · rename_i x r
    by_cases hi : i + 1 < nL
    · rw [if_pos hi] at h
      cases h
      exact ⟨x, r, rfl, hi, rfl⟩
    · rw [if_neg hi] at h
      cases h
  · cases h
theorem sx_svA_inv {n i : Nat} (h : sx_svA pc n nL lv st i = some F) : (∃ (x : Nat) (r : List Value), st = .ref x :: r ∧ i < nL ∧ F = (pc + n, sx_s1 lv i (.ref x), r)) ∨ (∃ r : List Value, st = .null :: r ∧ i < nL ∧ F = (pc + n, sx_s1 lv i .null, r)) := by
  unfold sx_svA at h
  split at h
  · rename_i x r
    by_cases hi : i < nL
    · rw [if_pos hi] at h
      cases h
      exact Or.inl ⟨x, r, rfl, hi, rfl⟩
    · rw [if_neg hi] at h
      cases h
  · rename_i r
    by_cases hi : i < nL
    · rw [if_pos hi] at h
      cases h
      exact Or.inr ⟨r, rfl, hi, rfl⟩
    · rw [if_neg hi] at h
      cases h
  · cases h
theorem sx_inc_inv {i : Nat} {n : Int} (h : sx_inc pc nL lv st i n = some F) : ∃ x : Int32, sx_lk lv i = some (.int x) ∧ i < nL ∧ F = (pc + 3, sx_s1 lv i (.int (x + Int32.ofInt n)), st) := by
  unfold sx_inc at h
  split at h
  · rename_i x hx
    by_cases hi : i < nL
    · rw [if_pos hi] at h
      cases h
      exact ⟨x, hx, hi, rfl⟩
    · rw [if_neg hi] at h
      cases h
  · cases h
theorem sx_if {a b : Nat} {o : Option sx_F} (h : (if a = b then o else none) = some F) : a = b ∧ o = some F := by
  by_cases hab : a = b
  · rw [if_pos hab] at h
    exact ⟨hab, h⟩
  · rw [if_neg hab] at h
    cases h
theorem sx_op4 {v : Value} {y : Option Nat} (h : sx_op v = some y) : y ≠ some 4 := by
  unfold sx_op at h
  split at h
  · rename_i a
    by_cases e : a = 4
    · rw [if_pos e] at h
      cases h
    · rw [if_neg e] at h
      cases h
      exact fun z => e (Option.some.inj z)
  · cases h
    exact fun z => by cases z
  · cases h
theorem sx_opR {ua : Nat → Nat} {v : Value} {y : Option Nat} (h : sx_op v = some y) : sx_up ua v = va_rf (y.map ua) := by
  unfold sx_op at h
  split at h
  · rename_i a
    by_cases e : a = 4
    · rw [if_pos e] at h
      cases h
    · rw [if_neg e] at h
      cases h
      rfl
  · cases h
    rfl
  · cases h
theorem sx_mapI {ua : Nat → Nat} (hua : ∀ a b, a ≠ 4 → b ≠ 4 → ua a = ua b → a = b) {x y : Option Nat} (hx : x ≠ some 4) (hy : y ≠ some 4) (h : x.map ua = y.map ua) : x = y := by
  cases x with
  | none => cases y with
    | none => rfl
    | some b => cases h
  | some a => cases y with
    | none => cases h
    | some b =>
      have h : ua a = ua b := Option.some.inj h
      rw [hua a b (fun e => hx (by rw [e])) (fun e => hy (by rw [e])) h]
theorem sx_b0_inv {off : Int} {eq : Bool} (h : sx_b0 pc off lv st eq = some F) : ∃ (v w : Value) (x y : Option Nat) (r : List Value), st = v :: w :: r ∧ sx_op v = some y ∧ sx_op w = some x ∧ ∃ t : Nat, (pc : Int) + off = (t : Int) ∧ (((decide (x = y) == eq) = true ∧ F = (t, lv, r)) ∨ ((decide (x = y) == eq) = false ∧ F = (pc + 3, lv, r))) := by
  unfold sx_b0 at h
  split at h
  · split at h
    · rename_i y x hy hx
      exact ⟨_, _, x, y, _, rfl, hy, hx, sx_bb_inv h⟩
    · cases h
  · cases h
theorem sx_bn_inv {off : Int} {n : Bool} (h : sx_bn pc off lv st n = some F) : ∃ (r : List Value) (t : Nat), (pc : Int) + off = (t : Int) ∧ (((∃ a : Nat, st = .ref a :: r) ∧ ((n = false ∧ F = (t, lv, r)) ∨ (n = true ∧ F = (pc + 3, lv, r)))) ∨ (st = .null :: r ∧ ((n = true ∧ F = (t, lv, r)) ∨ (n = false ∧ F = (pc + 3, lv, r))))) := by
  unfold sx_bn at h
  split at h
  · rename_i a r
    obtain ⟨t, ht, hh⟩ := sx_bb_inv h
    refine ⟨r, t, ht, Or.inl ⟨⟨a, rfl⟩, ?_⟩⟩
    cases n with
    | true => exact Or.inr (by simpa using hh)
    | false => exact Or.inl (by simpa using hh)
  · rename_i r
    obtain ⟨t, ht, hh⟩ := sx_bb_inv h
    exact ⟨r, t, ht, Or.inr ⟨rfl, hh⟩⟩
  · cases h
theorem sx_sw_inv {d lo hi : Int} {offs : Array Int} (h : sx_sw pc lv st d lo hi offs = some F) : ∃ (x : Int32) (r : List Value), st = .int x :: r ∧ ((∃ t : Nat, (x.toInt < lo ∨ hi < x.toInt) ∧ (pc : Int) + d = (t : Int) ∧ F = (t, lv, r)) ∨ ∃ (o : Int) (t : Nat), ¬ x.toInt < lo ∧ ¬ hi < x.toInt ∧ offs[(x.toInt - lo).toNat]? = some o ∧ (pc : Int) + o = (t : Int) ∧ F = (t, lv, r)) := by
  unfold sx_sw at h
  split at h
  · rename_i x r
    refine ⟨x, r, rfl, ?_⟩
    by_cases hx : x.toInt < lo ∨ hi < x.toInt
    · rw [if_pos hx] at h
      obtain ⟨t, ht, rfl⟩ := sx_jp_inv h
      exact Or.inl ⟨t, hx, ht, rfl⟩
    · rw [if_neg hx] at h
      split at h
      · rename_i o ho
        obtain ⟨t, ht, rfl⟩ := sx_jp_inv h
        exact Or.inr ⟨o, t, fun q => hx (Or.inl q), fun q => hx (Or.inr q), ho, ht, rfl⟩
      · cases h
  · cases h

set_option maxHeartbeats 4000000 in
theorem sx_pure_ok (hexec : p.tables.exec = Jvm.exec) (hb : c.code = cc) (hua : ∀ a b, a ≠ 4 → b ≠ 4 → ua a = ua b → a = b) {i : Instr} {len : Nat} (hd : decode cc pc = .ok (i, len)) (hl : lv_has ls nL (sx_upL ua lv)) (h : sx_pure nL i len pc lv st = some F) (kk : ∀ ls' : Array Slot, lv_has ls' nL (sx_upL ua F.2.1) → W p l e R s m args below meth c H locs cells slots Q (F0 m F.1 ls' (sx_upS ua F.2.2))) : W p l e R s m args below meth c H locs cells slots Q (F0 m pc ls (sx_upS ua st)) := by
  cases i with
  | iconst n =>
    obtain ⟨rfl, h⟩ := sx_if h
    cases h
    exact lv_iconst hexec hb hd rfl (kk ls hl)
  | bipush n =>
    obtain ⟨rfl, h⟩ := sx_if h
    cases h
    exact lv_bipush hexec hb hd rfl (kk ls hl)
  | sipush n =>
    obtain ⟨rfl, h⟩ := sx_if h
    cases h
    exact lv_sipush hexec hb hd rfl (kk ls hl)
  | lconst n =>
    obtain ⟨rfl, h⟩ := sx_if h
    cases h
    exact lv_lconst hexec hb hd rfl (kk ls hl)
  | aconst_null =>
    obtain ⟨rfl, h⟩ := sx_if h
    cases h
    exact lv_null hexec hb hd (kk ls hl)
  | iload_n n =>
    obtain ⟨rfl, h⟩ := sx_if h
    obtain ⟨x, hx, rfl⟩ := sx_ldI_inv h
    exact lv_iload_n hexec hb hd rfl (sx_at hl hx) (kk ls hl)
  | iload n =>
    obtain ⟨rfl, h⟩ := sx_if h
    obtain ⟨x, hx, rfl⟩ := sx_ldI_inv h
    exact lv_iload hexec hb hd (sx_at hl hx) (kk ls hl)
  | lload_n n =>
    obtain ⟨rfl, h⟩ := sx_if h
    obtain ⟨x, hx, rfl⟩ := sx_ldL_inv h
    exact lv_lload_n hexec hb hd rfl (sx_at hl hx) (kk ls hl)
  | lload n =>
    obtain ⟨rfl, h⟩ := sx_if h
    obtain ⟨x, hx, rfl⟩ := sx_ldL_inv h
    exact lv_lload hexec hb hd (sx_at hl hx) (kk ls hl)
  | aload_n n =>
    obtain ⟨rfl, h⟩ := sx_if h
    rcases sx_ldA_inv h with ⟨x, hx, rfl⟩ | ⟨hx, rfl⟩
    · exact lv_aload_n hexec hb hd rfl (sx_at hl hx) (kk ls hl)
    · exact lv_aload_nN hexec hb hd rfl (sx_at hl hx) (kk ls hl)
  | aload n =>
    obtain ⟨rfl, h⟩ := sx_if h
    rcases sx_ldA_inv h with ⟨x, hx, rfl⟩ | ⟨hx, rfl⟩
    · exact lv_aload hexec hb hd (sx_at hl hx) (kk ls hl)
    · exact lv_aloadN hexec hb hd (sx_at hl hx) (kk ls hl)
  | istore_n n =>
    obtain ⟨rfl, h⟩ := sx_if h
    obtain ⟨x, r, rfl, hn, rfl⟩ := sx_svI_inv h
    exact lv_istore_n hexec hb hd rfl hl hn (sx_up_s1 ua lv _ (.int x)) kk
  | istore n =>
    obtain ⟨rfl, h⟩ := sx_if h
    obtain ⟨x, r, rfl, hn, rfl⟩ := sx_svI_inv h
    exact lv_istore hexec hb hd hl hn (sx_up_s1 ua lv _ (.int x)) kk
  | lstore_n n =>
    obtain ⟨rfl, h⟩ := sx_if h
    obtain ⟨x, r, rfl, hn, rfl⟩ := sx_svL_inv h
    exact lv_lstore_n hexec hb hd rfl hl hn (sx_up_s2 ua lv _ (.long x)) kk
  | lstore n =>
    obtain ⟨rfl, h⟩ := sx_if h
    obtain ⟨x, r, rfl, hn, rfl⟩ := sx_svL_inv h
    exact lv_lstore hexec hb hd hl hn (sx_up_s2 ua lv _ (.long x)) kk
  | astore_n n =>
    obtain ⟨rfl, h⟩ := sx_if h
    rcases sx_svA_inv h with ⟨x, r, rfl, hn, rfl⟩ | ⟨r, rfl, hn, rfl⟩
    · exact lv_astore_n hexec hb hd rfl hl hn (sx_up_s1 ua lv _ (.ref x)) kk
    · exact lv_astore_nN hexec hb hd rfl hl hn (sx_up_s1 ua lv _ .null) kk
  | astore n =>
    obtain ⟨rfl, h⟩ := sx_if h
    rcases sx_svA_inv h with ⟨x, r, rfl, hn, rfl⟩ | ⟨r, rfl, hn, rfl⟩
    · exact lv_astore hexec hb hd hl hn (sx_up_s1 ua lv _ (.ref x)) kk
    · exact lv_astoreN hexec hb hd hl hn (sx_up_s1 ua lv _ .null) kk
  | iinc n k =>
    obtain ⟨rfl, h⟩ := sx_if h
    obtain ⟨x, hx, hn, rfl⟩ := sx_inc_inv h
    obtain ⟨j, hj⟩ := sx_at' (ua := ua) hx
    exact lv_iinc hexec hb hd hl hj rfl hn (sx_up_s1 ua lv _ (.int _)) kk
  | pop =>
    obtain ⟨rfl, h⟩ := sx_if h
    rename_i h2
    clear h
    split at h2
    · rename_i v r
      by_cases hv : v.category = 1
      · rw [if_pos hv] at h2
        cases h2
        exact lv_pop hexec hb hd (by rw [sx_cat]; exact hv) (kk ls hl)
      · rw [if_neg hv] at h2
        cases h2
    · cases h2
  | dup =>
    obtain ⟨rfl, h⟩ := sx_if h
    rename_i h2
    clear h
    split at h2
    · rename_i v r
      by_cases hv : v.category = 1
      · rw [if_pos hv] at h2
        cases h2
        exact lv_dup hexec hb hd (by rw [sx_cat]; exact hv) (kk ls hl)
      · rw [if_neg hv] at h2
        cases h2
    · cases h2
  | dup_x1 =>
    obtain ⟨rfl, h⟩ := sx_if h
    rename_i h2
    clear h
    split at h2
    · rename_i v w r
      by_cases hv : v.category = 1 ∧ w.category = 1
      · rw [if_pos hv] at h2
        cases h2
        exact lv_dup_x1 hexec hb hd (by rw [sx_cat]; exact hv.1) (by rw [sx_cat]; exact hv.2) (kk ls hl)
      · rw [if_neg hv] at h2
        cases h2
    · cases h2
  | dup2 =>
    obtain ⟨rfl, h⟩ := sx_if h
    rename_i h2
    clear h
    split at h2
    · rename_i v w r
      by_cases hv : v.category = 1 ∧ w.category = 1
      · rw [if_pos hv] at h2
        cases h2
        exact lv_dup2_11 hexec hb hd (by rw [sx_cat]; exact hv.1) (by rw [sx_cat]; exact hv.2) (kk ls hl)
      · rw [if_neg hv] at h2
        cases h2
    · cases h2
  | l2i =>
    obtain ⟨rfl, h⟩ := sx_if h
    obtain ⟨x, r, rfl, rfl⟩ := sx_l1_inv h
    exact lv_l2i hexec hb hd rfl (kk ls hl)
  | lcmp =>
    obtain ⟨rfl, h⟩ := sx_if h
    obtain ⟨x, y, r, rfl, rfl⟩ := sx_l2_inv h
    exact W.lcmp hexec hb hd (kk ls hl)
  | goto off =>
    obtain ⟨rfl, h⟩ := sx_if h
    obtain ⟨t, ht, rfl⟩ := sx_jp_inv h
    exact lv_goto hexec hb hd ht (kk ls hl)
  | iadd =>
    obtain ⟨rfl, h⟩ := sx_if h
    obtain ⟨x, y, r, rfl, rfl⟩ := sx_i2_inv h
    exact lv_iadd hexec hb hd (kk ls hl)
  | isub =>
    obtain ⟨rfl, h⟩ := sx_if h
    obtain ⟨x, y, r, rfl, rfl⟩ := sx_i2_inv h
    exact lv_isub hexec hb hd (kk ls hl)
  | imul =>
    obtain ⟨rfl, h⟩ := sx_if h
    obtain ⟨x, y, r, rfl, rfl⟩ := sx_i2_inv h
    exact lv_imul hexec hb hd (kk ls hl)
  | iand =>
    obtain ⟨rfl, h⟩ := sx_if h
    obtain ⟨x, y, r, rfl, rfl⟩ := sx_i2_inv h
    exact lv_iand hexec hb hd (kk ls hl)
  | ior =>
    obtain ⟨rfl, h⟩ := sx_if h
    obtain ⟨x, y, r, rfl, rfl⟩ := sx_i2_inv h
    exact lv_ior hexec hb hd (kk ls hl)
  | ixor =>
    obtain ⟨rfl, h⟩ := sx_if h
    obtain ⟨x, y, r, rfl, rfl⟩ := sx_i2_inv h
    exact lv_ixor hexec hb hd (kk ls hl)
  | ishl =>
    obtain ⟨rfl, h⟩ := sx_if h
    obtain ⟨x, y, r, rfl, rfl⟩ := sx_i2_inv h
    exact lv_ishl hexec hb hd (kk ls hl)
  | ishr =>
    obtain ⟨rfl, h⟩ := sx_if h
    obtain ⟨x, y, r, rfl, rfl⟩ := sx_i2_inv h
    exact lv_ishr hexec hb hd (kk ls hl)
  | iushr =>
    obtain ⟨rfl, h⟩ := sx_if h
    obtain ⟨x, y, r, rfl, rfl⟩ := sx_i2_inv h
    exact lv_iushr hexec hb hd rfl (kk ls hl)
  | ladd =>
    obtain ⟨rfl, h⟩ := sx_if h
    obtain ⟨x, y, r, rfl, rfl⟩ := sx_l2_inv h
    exact lv_ladd hexec hb hd (kk ls hl)
  | lsub =>
    obtain ⟨rfl, h⟩ := sx_if h
    obtain ⟨x, y, r, rfl, rfl⟩ := sx_l2_inv h
    exact lv_lsub hexec hb hd (kk ls hl)
  | lmul =>
    obtain ⟨rfl, h⟩ := sx_if h
    obtain ⟨x, y, r, rfl, rfl⟩ := sx_l2_inv h
    exact lv_lmul hexec hb hd (kk ls hl)
  | land =>
    obtain ⟨rfl, h⟩ := sx_if h
    obtain ⟨x, y, r, rfl, rfl⟩ := sx_l2_inv h
    exact lv_land hexec hb hd (kk ls hl)
  | lor =>
    obtain ⟨rfl, h⟩ := sx_if h
    obtain ⟨x, y, r, rfl, rfl⟩ := sx_l2_inv h
    exact lv_lor hexec hb hd (kk ls hl)
  | lxor =>
    obtain ⟨rfl, h⟩ := sx_if h
    obtain ⟨x, y, r, rfl, rfl⟩ := sx_l2_inv h
    exact lv_lxor hexec hb hd (kk ls hl)
  | lushr =>
    obtain ⟨rfl, h⟩ := sx_if h
    obtain ⟨x, y, r, rfl, rfl⟩ := sx_li_inv h
    exact lv_lushr hexec hb hd rfl (kk ls hl)
  | lshl =>
    obtain ⟨rfl, h⟩ := sx_if h
    obtain ⟨x, y, r, rfl, rfl⟩ := sx_li_inv h
    exact lv_lshl hexec hb hd rfl (kk ls hl)
  | lshr =>
    obtain ⟨rfl, h⟩ := sx_if h
    obtain ⟨x, y, r, rfl, rfl⟩ := sx_li_inv h
    exact lv_lshr hexec hb hd rfl (kk ls hl)
  | i2l =>
    obtain ⟨rfl, h⟩ := sx_if h
    obtain ⟨x, r, rfl, rfl⟩ := sx_i1_inv h
    exact lv_i2l hexec hb hd rfl (kk ls hl)
  | i2b =>
    obtain ⟨rfl, h⟩ := sx_if h
    obtain ⟨x, r, rfl, rfl⟩ := sx_i1_inv h
    exact lv_i2b hexec hb hd rfl (kk ls hl)
  | i2s =>
    obtain ⟨rfl, h⟩ := sx_if h
    obtain ⟨x, r, rfl, rfl⟩ := sx_i1_inv h
    exact lv_i2s hexec hb hd rfl (kk ls hl)
  | i2c =>
    obtain ⟨rfl, h⟩ := sx_if h
    obtain ⟨x, r, rfl, rfl⟩ := sx_i1_inv h
    exact lv_i2c hexec hb hd rfl (kk ls hl)
  | ineg =>
    obtain ⟨rfl, h⟩ := sx_if h
    obtain ⟨x, r, rfl, rfl⟩ := sx_i1_inv h
    exact lv_ineg hexec hb hd (kk ls hl)
  | lneg =>
    obtain ⟨rfl, h⟩ := sx_if h
    obtain ⟨x, r, rfl, rfl⟩ := sx_l1_inv h
    exact lv_lneg hexec hb hd (kk ls hl)
  | idiv =>
    obtain ⟨rfl, h⟩ := sx_if h
    obtain ⟨x, y, r, rfl, hz, rfl⟩ := sx_i2z_inv h
    exact lv_idiv hexec hb hd hz (kk ls hl)
  | irem =>
    obtain ⟨rfl, h⟩ := sx_if h
    obtain ⟨x, y, r, rfl, hz, rfl⟩ := sx_i2z_inv h
    exact lv_irem hexec hb hd hz (kk ls hl)
  | ldiv =>
    obtain ⟨rfl, h⟩ := sx_if h
    obtain ⟨x, y, r, rfl, hz, rfl⟩ := sx_l2z_inv h
    exact lv_ldiv hexec hb hd hz (kk ls hl)
  | lrem =>
    obtain ⟨rfl, h⟩ := sx_if h
    obtain ⟨x, y, r, rfl, hz, rfl⟩ := sx_l2z_inv h
    exact lv_lrem hexec hb hd hz (kk ls hl)
  | ifCond cd off =>
    cases cd with
    | eq =>
      obtain ⟨rfl, h⟩ := sx_if h
      obtain ⟨x, r, rfl, t, ht, hh⟩ := sx_b1_inv h
      rcases hh with ⟨hf, rfl⟩ | ⟨hf, rfl⟩
      · exact lv_if_eq hexec hb hd ht (fun _ => kk ls hl) (fun q => absurd (of_decide_eq_true hf) q)
      · exact lv_if_eq hexec hb hd ht (fun q => absurd q (of_decide_eq_false hf)) (fun _ => kk ls hl)
    | ne =>
      obtain ⟨rfl, h⟩ := sx_if h
      obtain ⟨x, r, rfl, t, ht, hh⟩ := sx_b1_inv h
      rcases hh with ⟨hf, rfl⟩ | ⟨hf, rfl⟩
      · exact lv_if_ne hexec hb hd ht (fun _ => kk ls hl) (fun q => absurd q (of_decide_eq_true hf))
      · exact lv_if_ne hexec hb hd ht (fun q => absurd q (of_decide_eq_false hf)) (fun _ => kk ls hl)
    | lt =>
      obtain ⟨rfl, h⟩ := sx_if h
      obtain ⟨x, r, rfl, t, ht, hh⟩ := sx_b1_inv h
      rcases hh with ⟨hf, rfl⟩ | ⟨hf, rfl⟩
      · exact lv_if_lt hexec hb hd ht (fun _ => kk ls hl) (fun q => absurd (of_decide_eq_true hf) q)
      · exact lv_if_lt hexec hb hd ht (fun q => absurd q (of_decide_eq_false hf)) (fun _ => kk ls hl)
    | ge =>
      obtain ⟨rfl, h⟩ := sx_if h
      obtain ⟨x, r, rfl, t, ht, hh⟩ := sx_b1_inv h
      rcases hh with ⟨hf, rfl⟩ | ⟨hf, rfl⟩
      · exact lv_if_ge hexec hb hd ht (fun _ => kk ls hl) (fun q => absurd (of_decide_eq_true hf) q)
      · exact lv_if_ge hexec hb hd ht (fun q => absurd q (of_decide_eq_false hf)) (fun _ => kk ls hl)
    | gt =>
      obtain ⟨rfl, h⟩ := sx_if h
      obtain ⟨x, r, rfl, t, ht, hh⟩ := sx_b1_inv h
      rcases hh with ⟨hf, rfl⟩ | ⟨hf, rfl⟩
      · exact lv_if_gt hexec hb hd ht (fun _ => kk ls hl) (fun q => absurd (of_decide_eq_true hf) q)
      · exact lv_if_gt hexec hb hd ht (fun q => absurd q (of_decide_eq_false hf)) (fun _ => kk ls hl)
    | le =>
      obtain ⟨rfl, h⟩ := sx_if h
      obtain ⟨x, r, rfl, t, ht, hh⟩ := sx_b1_inv h
      rcases hh with ⟨hf, rfl⟩ | ⟨hf, rfl⟩
      · exact lv_if_le hexec hb hd ht (fun _ => kk ls hl) (fun q => absurd (of_decide_eq_true hf) q)
      · exact lv_if_le hexec hb hd ht (fun q => absurd q (of_decide_eq_false hf)) (fun _ => kk ls hl)
  | if_icmp cd off =>
    cases cd with
    | eq =>
      obtain ⟨rfl, h⟩ := sx_if h
      obtain ⟨x, y, r, rfl, t, ht, hh⟩ := sx_b2_inv h
      rcases hh with ⟨hf, rfl⟩ | ⟨hf, rfl⟩
      · exact lv_icmp_eq hexec hb hd ht (fun _ => kk ls hl) (fun q => absurd (of_decide_eq_true hf) q)
      · exact lv_icmp_eq hexec hb hd ht (fun q => absurd q (of_decide_eq_false hf)) (fun _ => kk ls hl)
    | ne =>
      obtain ⟨rfl, h⟩ := sx_if h
      obtain ⟨x, y, r, rfl, t, ht, hh⟩ := sx_b2_inv h
      rcases hh with ⟨hf, rfl⟩ | ⟨hf, rfl⟩
      · exact lv_icmp_ne hexec hb hd ht (fun _ => kk ls hl) (fun q => absurd q (of_decide_eq_true hf))
      · exact lv_icmp_ne hexec hb hd ht (fun q => absurd q (of_decide_eq_false hf)) (fun _ => kk ls hl)
    | lt =>
      obtain ⟨rfl, h⟩ := sx_if h
      obtain ⟨x, y, r, rfl, t, ht, hh⟩ := sx_b2_inv h
      rcases hh with ⟨hf, rfl⟩ | ⟨hf, rfl⟩
      · exact lv_icmp_lt hexec hb hd ht (fun _ => kk ls hl) (fun q => absurd (of_decide_eq_true hf) q)
      · exact lv_icmp_lt hexec hb hd ht (fun q => absurd q (of_decide_eq_false hf)) (fun _ => kk ls hl)
    | ge =>
      obtain ⟨rfl, h⟩ := sx_if h
      obtain ⟨x, y, r, rfl, t, ht, hh⟩ := sx_b2_inv h
      rcases hh with ⟨hf, rfl⟩ | ⟨hf, rfl⟩
      · exact lv_icmp_ge hexec hb hd ht (fun _ => kk ls hl) (fun q => absurd (of_decide_eq_true hf) q)
      · exact lv_icmp_ge hexec hb hd ht (fun q => absurd q (of_decide_eq_false hf)) (fun _ => kk ls hl)
    | gt =>
      obtain ⟨rfl, h⟩ := sx_if h
      obtain ⟨x, y, r, rfl, t, ht, hh⟩ := sx_b2_inv h
      rcases hh with ⟨hf, rfl⟩ | ⟨hf, rfl⟩
      · exact lv_icmp_gt hexec hb hd ht (fun _ => kk ls hl) (fun q => absurd (of_decide_eq_true hf) q)
      · exact lv_icmp_gt hexec hb hd ht (fun q => absurd q (of_decide_eq_false hf)) (fun _ => kk ls hl)
    | le =>
      obtain ⟨rfl, h⟩ := sx_if h
      obtain ⟨x, y, r, rfl, t, ht, hh⟩ := sx_b2_inv h
      rcases hh with ⟨hf, rfl⟩ | ⟨hf, rfl⟩
      · exact lv_icmp_le hexec hb hd ht (fun _ => kk ls hl) (fun q => absurd (of_decide_eq_true hf) q)
      · exact lv_icmp_le hexec hb hd ht (fun q => absurd q (of_decide_eq_false hf)) (fun _ => kk ls hl)
  | if_acmp cd off =>
    cases cd with
    | eq =>
      obtain ⟨rfl, h⟩ := sx_if h
      obtain ⟨v, w, x, y, r, rfl, hv, hw, t, ht, hh⟩ := sx_b0_inv h
      refine W.eq (g2 := F0 m pc ls (va_rf (y.map ua) :: va_rf (x.map ua) :: sx_upS ua r)) (by rw [← sx_opR hv, ← sx_opR hw]; rfl) ?_
      rcases hh with ⟨hf, rfl⟩ | ⟨hf, rfl⟩
      · have hf : x = y := by simpa using hf
        exact lv_acmp_eq hexec hb hd ht (fun _ => kk ls hl) (fun q => absurd (by rw [hf]) q)
      · have hf : ¬ x = y := by simpa using hf
        exact lv_acmp_eq hexec hb hd ht (fun q => absurd (sx_mapI hua (sx_op4 hw) (sx_op4 hv) q) hf) (fun _ => kk ls hl)
    | ne =>
      obtain ⟨rfl, h⟩ := sx_if h
      obtain ⟨v, w, x, y, r, rfl, hv, hw, t, ht, hh⟩ := sx_b0_inv h
      refine W.eq (g2 := F0 m pc ls (va_rf (y.map ua) :: va_rf (x.map ua) :: sx_upS ua r)) (by rw [← sx_opR hv, ← sx_opR hw]; rfl) ?_
      rcases hh with ⟨hf, rfl⟩ | ⟨hf, rfl⟩
      · have hf : ¬ x = y := by simpa using hf
        exact lv_acmp_ne hexec hb hd ht (fun _ => kk ls hl) (fun q => absurd (sx_mapI hua (sx_op4 hw) (sx_op4 hv) q) hf)
      · have hf : x = y := by simpa using hf
        exact lv_acmp_ne hexec hb hd ht (fun q => absurd (by rw [hf]) q) (fun _ => kk ls hl)
  | ifnull off =>
    obtain ⟨rfl, h⟩ := sx_if h
    obtain ⟨r, t, ht, hh⟩ := sx_bn_inv h
    rcases hh with ⟨⟨a, rfl⟩, ⟨hf, rfl⟩ | ⟨hf, rfl⟩⟩ | ⟨rfl, ⟨hf, rfl⟩ | ⟨hf, rfl⟩⟩
    · cases hf
    · exact lv_ifnull hexec hb hd (kk ls hl)
    · exact lv_ifnullN hexec hb hd ht (kk ls hl)
    · cases hf
  | ifnonnull off =>
    obtain ⟨rfl, h⟩ := sx_if h
    obtain ⟨r, t, ht, hh⟩ := sx_bn_inv h
    rcases hh with ⟨⟨a, rfl⟩, ⟨hf, rfl⟩ | ⟨hf, rfl⟩⟩ | ⟨rfl, ⟨hf, rfl⟩ | ⟨hf, rfl⟩⟩
    · exact lv_ifnonnull hexec hb hd ht (kk ls hl)
    · cases hf
    · cases hf
    · exact lv_ifnonnullN hexec hb hd (kk ls hl)
  | tableswitch d lo hi offs =>
    obtain ⟨x, r, rfl, hh⟩ := sx_sw_inv h
    rcases hh with ⟨t, hx, ht, rfl⟩ | ⟨o, t, h1, h2, ho, ht, rfl⟩
    · exact lv_tableOut hexec hb hd hx ht (kk ls hl)
    · exact lv_tableIn hexec hb hd h1 h2 ho ht (kk ls hl)
  | _ => cases h
end SXP
