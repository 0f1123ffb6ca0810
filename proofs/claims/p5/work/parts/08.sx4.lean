/-! THE ABSTRACT MACHINE: instructions on the heap. st: stack; hs: heap; the last two numbers: cells and slots that are made -/
abbrev sx_S : Type := sx_F × sx_H × Nat × Nat
def sx_popR (st : List Value) : Option (Nat × List Value) := match st with
  | .ref x :: r => some (x, r)
  | _ => none
def sx_popI (st : List Value) : Option (Int32 × List Value) := match st with
  | .int x :: r => some (x, r)
  | _ => none
def sx_popL (st : List Value) : Option (Int64 × List Value) := match st with
  | .long x :: r => some (x, r)
  | _ => none
def sx_pop (st : List Value) : Option (Value × List Value) := match st with
  | v :: r => some (v, r)
  | [] => none
def sx_obj (hs : sx_H) (x : Nat) : Option (Nat × List Value) := match hs[x]? with
  | some (.inr (.inl o)) => some o
  | _ => none
def sx_arr (hs : sx_H) (x : Nat) : Option (Nat × vp_A) := match hs[x]? with
  | some (.inl o) => some o
  | _ => none
def sx_ai (x : vp_A) : Option (Nat → Int32) := match x.2 with
  | .inl f => some f
  | _ => none
def sx_al (x : vp_A) : Option (Nat → Int64) := match x.2 with
  | .inr (.inl f) => some f
  | _ => none
def sx_aq (x : vp_A) : Option (Nat → Option Nat) := match x.2 with
  | .inr (.inr (.inr (.inr f))) => some f
  | _ => none
theorem sx_popR_inv {st : List Value} {x : Nat} {r : List Value} (h : sx_popR st = some (x, r)) : st = .ref x :: r := by
  unfold sx_popR at h
  split at h
  · cases h; rfl
  · cases h
theorem sx_popI_inv {st : List Value} {x : Int32} {r : List Value} (h : sx_popI st = some (x, r)) : st = .int x :: r := by
  unfold sx_popI at h
  split at h
  · cases h; rfl
  · cases h
theorem sx_popL_inv {st : List Value} {x : Int64} {r : List Value} (h : sx_popL st = some (x, r)) : st = .long x :: r := by
  unfold sx_popL at h
  split at h
  · cases h; rfl
  · cases h
theorem sx_pop_inv {st : List Value} {x : Value} {r : List Value} (h : sx_pop st = some (x, r)) : st = x :: r := by
  unfold sx_pop at h
  split at h
  · cases h; rfl
  · cases h
theorem sx_obj_inv {hs : sx_H} {x : Nat} {o : Nat × List Value} (h : sx_obj hs x = some o) : hs[x]? = some (.inr (.inl o)) := by
  unfold sx_obj at h
  split at h
  · rename_i o' ho
    cases h
    exact ho
  · cases h
theorem sx_arr_inv {hs : sx_H} {x : Nat} {o : Nat × vp_A} (h : sx_arr hs x = some o) : hs[x]? = some (.inl o) := by
  unfold sx_arr at h
  split at h
  · rename_i o' ho
    cases h
    exact ho
  · cases h
theorem sx_ai_inv {x : vp_A} {f : Nat → Int32} (h : sx_ai x = some f) : x = (x.1, .inl f) := by
  obtain ⟨n, y⟩ := x
  unfold sx_ai at h
  split at h
  · rename_i g hg
    cases h
    exact congrArg (Prod.mk n) hg
  · cases h
theorem sx_al_inv {x : vp_A} {f : Nat → Int64} (h : sx_al x = some f) : x = (x.1, .inr (.inl f)) := by
  obtain ⟨n, y⟩ := x
  unfold sx_al at h
  split at h
  · rename_i g hg
    cases h
    exact congrArg (Prod.mk n) hg
  · cases h
theorem sx_aq_inv {x : vp_A} {f : Nat → Option Nat} (h : sx_aq x = some f) : x = (x.1, .inr (.inr (.inr (.inr f)))) := by
  obtain ⟨n, y⟩ := x
  unfold sx_aq at h
  split at h
  · rename_i g hg
    cases h
    exact congrArg (Prod.mk n) hg
  · cases h
def sx_fit (ty : FieldType) (v : Value) : Bool := match ty, v with
  | .int, .int _ => true
  | .long, .long _ => true
  | .boolean, .int x => x == 0 || x == 1
  | .byte, .int x => x.toInt8.toInt32 == x
  | .char, .int x => x.toUInt32.toUInt16.toUInt32.toInt32 == x && fits .char (.int x)
  | .object _, .ref _ => true
  | .object _, .null => true
  | .array _, .ref _ => true
  | .array _, .null => true
  | _, _ => false
theorem sx_fit_ok {ty : FieldType} {v : Value} (h : sx_fit ty v = true) : narrow ty v = v ∧ fits ty v = true := by
  unfold sx_fit at h
  split at h
  · exact ⟨rfl, rfl⟩
  · exact ⟨rfl, rfl⟩
  · rename_i x
    simp only [Bool.or_eq_true, beq_iff_eq] at h
    rcases h with rfl | rfl
    · exact ⟨rfl, rfl⟩
    · exact ⟨rfl, rfl⟩
  · rename_i x
    simp only [beq_iff_eq] at h
    refine ⟨by show Value.int _ = Value.int x; rw [h], ?_⟩
    rw [← h]
    exact pk_fb x
  · rename_i x
    simp only [Bool.and_eq_true, beq_iff_eq] at h
    exact ⟨by show Value.int _ = Value.int x; rw [h.1], h.2⟩
  · exact ⟨rfl, rfl⟩
  · exact ⟨rfl, rfl⟩
  · exact ⟨rfl, rfl⟩
  · exact ⟨rfl, rfl⟩
  · cases h
def sx_zero (t : ArrayType) (n : Nat) : Option vp_A := match t with
  | .long => some (n, .inr (.inl (fun _ => 0)))
  | .float => none
  | .double => none
  | _ => some (n, .inl (fun _ => 0))
theorem sx_zero_ok {t : ArrayType} {n : Nat} {x : vp_A} (h : sx_zero t n = some x) (ua : Nat → Nat) (cA : ClassId) : vp_cell cA (sx_upA ua x) = arrV cA n (fun _ => defaultValue (newarray.typeOf t)) ∧ n * componentBytes (newarray.typeOf t) ≤ n * 8 := by
  cases t <;> simp only [sx_zero] at h <;> first | (cases h; exact ⟨rfl, Nat.mul_le_mul_left _ (by decide)⟩) | cases h
section SXO
variable (K0 : Nat) (ft : Nat → Nat → FieldType) (df : Nat → List Value) (tf : Nat → FieldType) (cst : Nat → Nat → Bool) (zs : List (String × String × String × Value)) (ks : Nat → Value)
def sx_ogetf (a b pc : Nat) (lv : List (Nat × Value)) (st : List Value) (hs : sx_H) : Option sx_S :=
  (sx_popR st).bind fun q => (sx_obj hs q.1).bind fun o => if o.1 = a ∧ K0 ≤ q.1 then (o.2[b]?).bind fun v => some ((pc + 3, lv, v :: q.2), hs, 0, 0) else none
def sx_oputf (a b pc : Nat) (lv : List (Nat × Value)) (st : List Value) (hs : sx_H) : Option sx_S :=
  (sx_pop st).bind fun w => (sx_popR w.2).bind fun q => (sx_obj hs q.1).bind fun o => if o.1 = a ∧ K0 ≤ q.1 ∧ b < o.2.length ∧ sx_fit (ft a b) w.1 = true then some ((pc + 3, lv, q.2), hs.set q.1 (.inr (.inl (o.1, o.2.set b w.1))), 0, 0) else none
def sx_onew (a b pc : Nat) (lv : List (Nat × Value)) (st : List Value) (hs : sx_H) : Option sx_S :=
  if b = 0 then some ((pc + 3, lv, .ref hs.length :: st), hs ++ [.inr (.inl (a, df a))], 1, (df a).length) else none
def sx_onewa (t : ArrayType) (a pc : Nat) (lv : List (Nat × Value)) (st : List Value) (hs : sx_H) : Option sx_S :=
  (sx_popI st).bind fun q => if 0 ≤ q.1 ∧ q.1.toNatClampNeg ≤ 100000 then (sx_zero t q.1.toNatClampNeg).bind fun x => some ((pc + 2, lv, .ref hs.length :: q.2), hs ++ [.inl (a, x)], 1, q.1.toNatClampNeg) else none
def sx_onewq (a pc : Nat) (lv : List (Nat × Value)) (st : List Value) (hs : sx_H) : Option sx_S :=
  (sx_popI st).bind fun q => if 0 ≤ q.1 ∧ q.1.toNatClampNeg ≤ 100000 then some ((pc + 3, lv, .ref hs.length :: q.2), hs ++ [.inl (a, (q.1.toNatClampNeg, .inr (.inr (.inr (.inr (fun _ => none))))))], 1, q.1.toNatClampNeg) else none
def sx_oalen (pc : Nat) (lv : List (Nat × Value)) (st : List Value) (hs : sx_H) : Option sx_S :=
  (sx_popR st).bind fun q => (sx_arr hs q.1).bind fun o => some ((pc + 1, lv, .int (Int32.ofNat o.2.1) :: q.2), hs, 0, 0)
def sx_oald (ok : FieldType → Bool) (pc : Nat) (lv : List (Nat × Value)) (st : List Value) (hs : sx_H) : Option sx_S :=
  (sx_popI st).bind fun w => (sx_popR w.2).bind fun q => (sx_arr hs q.1).bind fun o => if ok (tf o.1) = true ∧ ¬ (w.1 < 0 ∨ o.2.1 ≤ w.1.toNatClampNeg) then some ((pc + 1, lv, sx_val o.2 w.1.toNatClampNeg :: q.2), hs, 0, 0) else none
def sx_oast (ty : FieldType) (nw : Int32 → Int32) (pc : Nat) (lv : List (Nat × Value)) (st : List Value) (hs : sx_H) : Option sx_S :=
  (sx_popI st).bind fun v => (sx_popI v.2).bind fun w => (sx_popR w.2).bind fun q => (sx_arr hs q.1).bind fun o => (sx_ai o.2).bind fun f => if tf o.1 = ty ∧ K0 ≤ q.1 ∧ ¬ (w.1 < 0 ∨ o.2.1 ≤ w.1.toNatClampNeg) then some ((pc + 1, lv, q.2), hs.set q.1 (.inl (o.1, (o.2.1, .inl (upd f w.1.toNatClampNeg (nw v.1))))), 0, 0) else none
def sx_olst (pc : Nat) (lv : List (Nat × Value)) (st : List Value) (hs : sx_H) : Option sx_S :=
  (sx_popL st).bind fun v => (sx_popI v.2).bind fun w => (sx_popR w.2).bind fun q => (sx_arr hs q.1).bind fun o => (sx_al o.2).bind fun f => if tf o.1 = .long ∧ K0 ≤ q.1 ∧ ¬ (w.1 < 0 ∨ o.2.1 ≤ w.1.toNatClampNeg) then some ((pc + 1, lv, q.2), hs.set q.1 (.inl (o.1, (o.2.1, .inr (.inl (vp_updL f w.1.toNatClampNeg v.1))))), 0, 0) else none
def sx_oaas (pc : Nat) (lv : List (Nat × Value)) (st : List Value) (hs : sx_H) : Option sx_S :=
  (sx_pop st).bind fun v => (sx_popI v.2).bind fun w => (sx_popR w.2).bind fun q => (sx_arr hs q.1).bind fun o => (sx_aq o.2).bind fun f => if K0 ≤ q.1 ∧ ¬ (w.1 < 0 ∨ o.2.1 ≤ w.1.toNatClampNeg) then (match v.1 with
    | .null => if cst 0 o.1 = true then some ((pc + 1, lv, q.2), hs.set q.1 (.inl (o.1, (o.2.1, .inr (.inr (.inr (.inr (va_up f w.1.toNatClampNeg none))))))), 0, 0) else none
    | .ref y => (sx_obj hs y).bind fun z => if K0 ≤ y ∧ cst (z.1 + 1) o.1 = true then some ((pc + 1, lv, q.2), hs.set q.1 (.inl (o.1, (o.2.1, .inr (.inr (.inr (.inr (va_up f w.1.toNatClampNeg (some y)))))))), 0, 0) else none
    | _ => none) else none
def sx_ogets (a pc : Nat) (lv : List (Nat × Value)) (st : List Value) (hs : sx_H) : Option sx_S :=
  (zs[a]?).bind fun z => some ((pc + 3, lv, z.2.2.2 :: st), hs, 0, 0)
def sx_ocast (a pc : Nat) (lv : List (Nat × Value)) (st : List Value) (hs : sx_H) : Option sx_S :=
  (sx_pop st).bind fun v => (match v.1 with
    | .null => some ((pc + 3, lv, st), hs, 0, 0)
    | .ref x => (sx_obj hs x).bind fun o => if o.1 = a ∧ K0 ≤ x then some ((pc + 3, lv, st), hs, 0, 0) else none
    | _ => none)
/-- one instruction that is no call and no end of its method -/
def sx_hs (nL : Nat) (i : Instr) (len a b pc : Nat) (lv : List (Nat × Value)) (st : List Value) (hs : sx_H) : Option sx_S := match i with
  | .getfield _ => sx_ogetf K0 a b pc lv st hs
  | .putfield _ => sx_oputf K0 ft a b pc lv st hs
  | .new _ => sx_onew df a b pc lv st hs
  | .newarray t => sx_onewa t a pc lv st hs
  | .anewarray _ => sx_onewq a pc lv st hs
  | .arraylength => sx_oalen pc lv st hs
  | .iaload => sx_oald tf (fun ty => ty == .int) pc lv st hs
  | .baload => if b = 0 then sx_oald tf (fun ty => ty == .byte) pc lv st hs else sx_oald tf (fun ty => ty == .boolean) pc lv st hs
  | .caload => sx_oald tf (fun ty => ty == .char) pc lv st hs
  | .laload => sx_oald tf (fun ty => ty == .long) pc lv st hs
  | .aaload => sx_oald tf (fun ty => ty.isReference) pc lv st hs
  | .iastore => sx_oast K0 tf .int (fun x => x) pc lv st hs
  | .bastore => if b = 0 then sx_oast K0 tf .byte (vp_nar .byte) pc lv st hs else sx_oast K0 tf .boolean (vp_nar .boolean) pc lv st hs
  | .castore => sx_oast K0 tf .char (vp_nar .char) pc lv st hs
  | .lastore => sx_olst K0 tf pc lv st hs
  | .aastore => sx_oaas K0 cst pc lv st hs
  | .getstatic _ => sx_ogets zs a pc lv st hs
  | .ldc _ => if b = 0 then some ((pc + 2, lv, ks a :: st), hs, 0, 0) else none
  | .ldc2_w _ => some ((pc + 3, lv, ks a :: st), hs, 0, 0)
  | .checkcast _ => sx_ocast K0 a pc lv st hs
  | .ldc_w _ => some ((pc + 3, lv, ks a :: st), hs, 0, 0)
  | i => (sx_pure nL i len pc lv st).bind fun F => some (F, hs, 0, 0)
end SXO
