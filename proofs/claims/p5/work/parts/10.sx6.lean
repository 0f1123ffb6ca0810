/-! THE ABSTRACT MACHINE: methods, calls, ends -/
/-- a method: name, bytes, locals, what it returns, its parameters (without its object), whether it is a constructor, its instructions with the numbers of what they link -/
abbrev sx_M : Type := MethodName × ByteArray × Nat × Option FieldType × Nat × Bool × (Nat → Option (Instr × Nat × Nat × Nat)) × List (Nat × Nat × Nat × Nat × List Nat)
/-- returned (with what), or threw (the object's place); heap; cells and slots made -/
abbrev sx_Res : Type := (Option Value ⊕ Nat) × sx_H × Nat × Nat
/-- the handler for an exception of number j at pc -/
def sx_find (hh : List (Nat × Nat × Nat × Nat × List Nat)) (pc j : Nat) : Option Nat := match hh with
  | [] => none
  | h :: r => if h.1 ≤ pc ∧ pc < h.2.1 then (if j ∈ h.2.2.2.2 then some h.2.2.1 else sx_find r pc j) else sx_find r pc j
def sx_plus (dc ds : Nat) (r : Option sx_Res) : Option sx_Res := r.bind fun q => some (q.1, q.2.1, dc + q.2.2.1, ds + q.2.2.2)
/-- 0: goes on; 1: an end; 2: a call; 3: Object's constructor; 4: a new exception is thrown; 5: what no bytecode does, or does with values that aren't known (arraycopy, getClass, a class constant, checkIndex with its formatter) -/
def sx_kd (i : Instr) (b : Nat) : Nat := match i with
  | .ireturn => 1
  | .lreturn => 1
  | .areturn => 1
  | .return_ => 1
  | .invokevirtual _ => if b = 1000 then 5 else 2
  | .invokestatic _ => if b = 1000 then 5 else 2
  | .ldc _ => if b = 1000 then 5 else 0
  | .getstatic _ => if b = 1000 then 5 else 0
  | .invokespecial _ => if b = 2 then 3 else 2
  | .new _ => if b = 1 then 4 else 0
  | _ => 0
def sx_isRT (ty : FieldType) : Bool := match ty with
  | .object _ => true
  | .array _ => true
  | _ => false
def sx_end (ret : Option FieldType) (i : Instr) (len : Nat) (st : List Value) (hs : sx_H) : Option sx_Res := match i, ret, st with
  | .ireturn, some ty, [.int x] => if sx_fit ty (.int x) = true ∧ len = 1 then some (.inl (some (.int x)), hs, 0, 0) else none
  | .lreturn, some .long, [.long x] => if len = 1 then some (.inl (some (.long x)), hs, 0, 0) else none
  | .areturn, some ty, [.ref x] => if sx_isRT ty = true ∧ len = 1 then some (.inl (some (.ref x)), hs, 0, 0) else none
  | .areturn, some ty, [.null] => if sx_isRT ty = true ∧ len = 1 then some (.inl (some .null), hs, 0, 0) else none
  | .return_, none, [] => if len = 1 then some (.inl none, hs, 0, 0) else none
  | _, _, _ => none
def sx_tot (i : Instr) (n : Nat) : Nat := match i with
  | .invokestatic _ => n
  | _ => n + 1
def sx_cats (st : List Value) : Nat := (st.map fun v => v.category).sum
def sx_rcv (K0 : Nat) (hs : sx_H) (i : Instr) (b : Nat) (vals : List Value) : Bool := match i, vals with
  | .invokestatic _, _ => true
  | .invokevirtual _, .ref x :: _ => (match sx_obj hs x with
    | some o => o.1 == b && decide (K0 ≤ x)
    | none => false)
  | .invokespecial _, .ref x :: _ => if b < 100 then true else (match sx_obj hs x with
    | some o => o.1 + 100 == b && decide (K0 ≤ x)
    | none => false)
  | _, _ => false
def sx_isV (i : Instr) : Bool := match i with
  | .invokevirtual _ => true
  | _ => false
theorem sx_kd_new {idx b : Nat} (h0 : ¬ sx_kd (.new idx) b = 0) (h4 : ¬ sx_kd (.new idx) b = 4) : False := by
  unfold sx_kd at h0 h4
  by_cases z : b = 1
  · exact h4 (if_pos z)
  · exact h0 (if_neg z)
section SXRUN
variable (K0 : Nat) (ft : Nat → Nat → FieldType) (df : Nat → List Value) (tf : Nat → FieldType) (cst : Nat → Nat → Bool) (zs : List (String × String × String × Value)) (ks : Nat → Value) (mt : Nat → Option sx_M)
/-- n: steps; d: how deep calls may go -/
def sx_run : Nat → Nat → sx_M → Nat → List (Nat × Value) → List Value → sx_H → Option sx_Res
  | 0, _, _, _, _, _, _ => none
  | n + 1, d, M, pc, lv, st, hs => (M.2.2.2.2.2.2.1 pc).bind fun I =>
    if sx_kd I.1 I.2.2.2 = 0 then (sx_hs K0 ft df tf cst zs ks M.2.2.1 I.1 I.2.1 I.2.2.1 I.2.2.2 pc lv st hs).bind fun S => sx_plus S.2.2.1 S.2.2.2 (sx_run n d M S.1.1 S.1.2.1 S.1.2.2 S.2.1)
    else if sx_kd I.1 I.2.2.2 = 1 then sx_end M.2.2.2.1 I.1 I.2.1 st hs
    else if sx_kd I.1 I.2.2.2 = 3 then (sx_popR st).bind fun q => if 1 ≤ d ∧ sx_cats q.2 ≤ 8 then sx_run n d M (pc + 3) lv q.2 hs else none
    else if sx_kd I.1 I.2.2.2 = 4 then (if 6 ≤ d ∧ sx_cats st ≤ 8 then some (.inr hs.length, hs ++ [.inr (.inr I.2.2.1)], 1, 6) else none)
    else if sx_kd I.1 I.2.2.2 = 5 then (sx_nt K0 tf cst I.1 I.2.2.1 pc st hs).bind fun q => if 1 ≤ d ∧ sx_cats q.2.1 ≤ 8 then sx_run n d M q.1 lv q.2.1 q.2.2 else none
    else match d with
      | 0 => none
      | d' + 1 => (mt I.2.2.1).bind fun M' =>
        if sx_tot I.1 M'.2.2.2.2.1 ≤ st.length ∧ sx_rcv K0 hs I.1 I.2.2.2 (st.take (sx_tot I.1 M'.2.2.2.2.1)).reverse = true ∧ sx_cats (st.drop (sx_tot I.1 M'.2.2.2.2.1)) ≤ 8 ∧ (lg_sl (st.take (sx_tot I.1 M'.2.2.2.2.1)).reverse).length ≤ M'.2.2.1 then
          (sx_run n d' M' 0 (lv_args 0 (st.take (sx_tot I.1 M'.2.2.2.2.1)).reverse) [] hs).bind fun r => sx_plus r.2.2.1 r.2.2.2 (match r.1 with
            | .inl v => sx_run n (d' + 1) M (pc + 3) lv (v.toList ++ st.drop (sx_tot I.1 M'.2.2.2.2.1)) r.2.1
            | .inr x => (match r.2.1[x]? with
              | some (.inr (.inr j)) => (sx_find M.2.2.2.2.2.2.2 pc j).bind fun h => if K0 ≤ x ∧ sx_isV I.1 = true then sx_run n (d' + 1) M h lv [.ref x] r.2.1 else none
              | _ => none))
        else none
end SXRUN
section SXKM
variable (Ts xw : List Cond) (cl : List vw_C) (ft : Nat → Nat → FieldType) (df : Nat → List Value) (tf : Nat → FieldType) (nt : Nat) (zs : List (String × String × String × Value)) (ks : Nat → Value) (mt : Nat → Option sx_M) (Kw : Nat) (ex : List String) (nc : List (String × String))
/-- what a call's numbers must be -/
def sx_okJ (own : String) (i : Instr) (len a b : Nat) : Prop := match i with
  | .invokevirtual idx => len = 3 ∧ ∀ M', mt a = some M' → (Cond.methodLink own idx M'.1 ∈ Ts ∨ ∃ host : String, Cond.methodLinkNest own idx M'.1 host ∈ xw) ∧ Cond.instanceMethod M'.1 ∈ Ts ∧ M'.2.2.2.2.2.2.2 = [] ∧ ∃ r : vw_C, cl[b]? = some r ∧ Cond.selects r.1 M'.1 M'.1 ∈ Ts
  | .invokestatic idx => len = 3 ∧ ∀ M', mt a = some M' → Cond.methodLink own idx M'.1 ∈ Ts ∧ Cond.static M'.1 ∈ Ts
  | .invokespecial idx => len = 3 ∧ (b = 2 → Cond.methodLink own idx Lib.objectInit ∈ Ts ∧ Cond.instanceMethod Lib.objectInit ∈ Ts ∧ Cond.code Lib.objectInit ⟨#[0xb1]⟩ 1 none ∈ Ts) ∧ (b ≠ 2 → b < 100 → ∀ M', mt a = some M' → Cond.instanceMethod M'.1 ∈ Ts ∧ M'.1.name = "<init>" ∧ M'.2.2.2.1 = none ∧ M'.2.2.2.2.2.2.2 = [] ∧ (Cond.methodLink own idx M'.1 ∈ Ts ∨ ∃ host : String, Cond.methodLinkNest own idx M'.1 host ∈ xw)) ∧ (100 ≤ b → ∀ M', mt a = some M' → Cond.instanceMethod M'.1 ∈ Ts ∧ M'.1.name ≠ "<init>" ∧ M'.2.2.2.2.2.2.2 = [] ∧ Cond.methodLink own idx M'.1 ∈ Ts ∧ Cond.sameMethod M'.1.cls M'.1.cls M'.1.name M'.1.desc ∈ Ts ∧ Cond.superclass own M'.1.cls ∈ Ts)
  | _ => True
/-- words on the heap that a thrown object's constructor asks -/
def sx_ew : List Cond := [.laysStatic Bundle.tN "UNASSIGNED_STACK" Bundle.steD, .laysStatic Bundle.tN "SUPPRESSED_SENTINEL" Bundle.listD, .isRef (.static Bundle.tN "UNASSIGNED_STACK" Bundle.steD), .isRef (.static Bundle.tN "SUPPRESSED_SENTINEL" Bundle.listD)]
/-- what a throw must be: 'new X; dup; X.<init>(); athrow' -/
def sx_okT (own : String) (cc : ByteArray) (pc : Nat) (i : Instr) (a b : Nat) : Prop := match i with
  | .new idx => b = 1 → ∃ (X : String) (names : List String) (ic : Nat), ex[a]? = some X ∧ Bundle.fit X = true ∧ (∀ n ∈ names, Bundle.fit n = true) ∧ names.length ≤ 2 ∧ Cond.classLink own idx X ∈ Ts ∧ Cond.instantiable X 6 ∈ Ts ∧ Cond.initialized X ∈ Ts ∧ decode cc (pc + 3) = .ok (.dup, 1) ∧ decode cc (pc + 4) = .ok (.invokespecial ic, 3) ∧ decode cc (pc + 7) = .ok (.athrow, 1) ∧ ∀ w ∈ Bundle.ownAtoms0 own ic X names, w ∈ Ts ∨ w ∈ xw ∨ w ∈ sx_ew
  | _ => True
/-- what a method's handlers must be -/
def sx_okH (own : String) (hh : List (Nat × Nat × Nat × Nat × List Nat)) : Prop := ∀ h ∈ hh, h.2.2.2.1 ≠ 0 ∧ ∃ nm : String, Cond.classLink own h.2.2.2.1 nm ∈ Ts ∧ ∀ (j : Nat) (X : String), ex[j]? = some X → if j ∈ h.2.2.2.2 then Cond.castable X nm ∈ xw else (X, nm) ∈ nc
def sx_raw (hh : List (Nat × Nat × Nat × Nat × List Nat)) : List (Nat × Nat × Nat × Nat) := hh.map fun h => (h.1, h.2.1, h.2.2.1, h.2.2.2.1)
/-- the word on a method's code -/
def sx_cw (M : sx_M) : Cond := match M.2.2.2.2.2.2.2 with
  | [] => .code M.1 M.2.1 M.2.2.1 M.2.2.2.1
  | hh => .codeWith M.1 M.2.1 M.2.2.1 M.2.2.2.1 (sx_raw hh)
/-- what a method must be -/
def sx_okM (M : sx_M) : Prop := plainFor M.1 = true ∧ sx_cw M ∈ Ts ∧ Cond.initialized M.1.cls ∈ Ts ∧ (M.1.cls ≠ "java/lang/invoke/MethodHandle" ∧ M.1.cls ≠ "java/lang/invoke/VarHandle" ∧ (parseMethodDescriptor M.1.desc).map (fun d => d.parameters.length) = some M.2.2.2.2.1) ∧ M.2.2.1 + 19 ≤ Kw ∧ (M.2.2.2.2.2.1 = true → M.1.name = "<init>") ∧ sx_okH Ts xw ex nc M.1.cls M.2.2.2.2.2.2.2 ∧
  ∀ pc i len a b, M.2.2.2.2.2.2.1 pc = some (i, len, a, b) → decode M.2.1 pc = .ok (i, len) ∧ sx_okI Ts xw cl ft df tf nt zs ks M.1.cls M.2.2.2.2.2.1 i len a b ∧ sx_okJ Ts xw cl mt M.1.cls i len a b ∧ (sx_kd i b = 4 → M.2.2.2.2.2.2.2 = []) ∧ sx_okT Ts xw ex M.1.cls M.2.1 pc i a b ∧ (sx_kd i b = 5 → sx_okN Ts xw tf M.1.cls M.2.1 pc i)
end SXKM
/-- words that aren't kept by the tables alone, but by warmer ones -/
def sx_xk (w : Cond) : Bool := match w with
  | .methodLinkNest .. => true
  | .castable .. => true
  | .arrayOver (.object _) => true
  | .declares _ => true
  | _ => false
theorem sx_xk_warm {w : Cond} (hk : sx_xk w = true) {s U : State} (hW : s.WarmedH U.vm) (h : va_Nw w s) : va_Nw w U := by
  unfold sx_xk at hk
  split at hk
  · exact va_Nw.warmM hW h
  · exact va_Nw.warmC hW h
  · exact va_AO.moved hW.alike h
  · exact va_Nw.warmD hW h
  · cases hk
theorem sx_up_args (ua : Nat → Nat) (vals : List Value) : ∀ i : Nat, sx_upL ua (lv_args i vals) = lv_args i (vals.map (sx_up ua)) := by
  induction vals with
  | nil => intro i; rfl
  | cons v r ih =>
    intro i
    show (i, sx_up ua v) :: sx_upL ua (lv_args (if v.category = 2 then i + 2 else i + 1) r) = (i, sx_up ua v) :: lv_args (if (sx_up ua v).category = 2 then i + 2 else i + 1) (r.map (sx_up ua))
    rw [sx_cat, ih]
theorem sx_up_words (ua : Nat → Nat) (vals : List Value) : (lg_sl (vals.map (sx_up ua))).length = (lg_sl vals).length := by
  induction vals with
  | nil => rfl
  | cons v r ih =>
    unfold lg_sl at ih ⊢
    simp only [List.map_cons, List.flatMap_cons, List.length_append, sx_cat, ih]
    split <;> rfl
theorem sx_up_cats (ua : Nat → Nat) (st : List Value) : ((sx_upS ua st).map fun v => v.category).sum = sx_cats st := by
  unfold sx_cats sx_upS
  rw [List.map_map]
  congr 2
  funext v
  exact sx_cat ua v
section SXQ
variable (D : va_G) (cl : List vw_C) (tys : List (ClassId × FieldType)) (ex : List String) (zs : List (String × String × String × Value)) (K0 base : Nat) (ua : Nat → Nat) (xw : List Cond) (nc : List (String × String))
def sx_Qc (v : Option Value) (hs : sx_H) : Array Value → State → Outcome → State → Prop := fun _ _ o t => o = .returned (v.map (sx_up ua)) ∧ sx_R D cl tys ex zs K0 base ua t hs t.heap
def sx_Pc (vals : List Value) (hs : sx_H) : Array Value → State → Prop := va_Pc (vals.map (sx_up ua)) (fun U => sx_R D cl tys ex zs K0 base ua U hs U.heap ∧ va_K D cl tys U ∧ (∀ w ∈ xw, va_Nw w U) ∧ ∀ q ∈ nc, va_Nc q.1 q.2 U)
end SXQ
section SXC
variable {p : Program} {l : Launch} {e : Env} {R : Room} {s : State} {m : MethodId} {args : Array Value} {below : List Frame} {meth : Method} {c : Code} {H : Heap} {locs : List Loc} {cells slots : Nat} {Q : State → Prop}
variable {cc : ByteArray} {pc nL : Nat} {ls : Array Slot} {lv : List (Nat × Value)} {st : List Value}
variable {D : va_G} {cl : List vw_C} {tys : List (ClassId × FieldType)} {ex : List String} {zs : List (String × String × String × Value)} {K0 base : Nat} {ua : Nat → Nat} {hs hs1 : sx_H} {xw : List Cond} {nc : List (String × String)} {vals : List Value}
theorem sx_blind (hxk : ∀ w ∈ xw, sx_xk w = true) : FrameBlind (sx_Pc D cl tys ex zs K0 base ua xw nc vals hs) := by
  intro a U g mk h
  obtain ⟨h1, h2, h3, h4, h5⟩ := h
  exact ⟨h1, sx_R.moved (u := U) (U := U.calling g mk a) (Vm.Alike.refl U.vm) h2, va_K.moved (u := U) (U := U.calling g mk a) (Vm.Alike.refl U.vm) h3, fun w hw => sx_xk_warm (s := U) (U := U.calling g mk a) (hxk w hw) (State.WarmedH.refl U) (h4 w hw), fun q hq => va_Nc.moved (u := U) (U := U.calling g mk a) (Vm.Alike.refl U.vm) (h5 q hq)⟩
theorem sx_pre (hxk : ∀ w ∈ xw, sx_xk w = true) (hK : va_K D cl tys s) (hxw : ∀ w ∈ xw, va_Nw w s) (hnc : ∀ q ∈ nc, va_Nc q.1 q.2 s) (hR : sx_R D cl tys ex zs K0 base ua s hs H) : ∀ U : State, U.heap = H → s.WarmedH U.vm → sx_Pc D cl tys ex zs K0 base ua xw nc vals hs (vals.map (sx_up ua)).toArray U := by
  intro U hU hW
  exact ⟨rfl, by rw [hU]; exact hR.moved hW.alike, hK.moved hW.alike, fun w hw => sx_xk_warm (hxk w hw) hW (hxw w hw), fun q hq => (hnc q hq).moved hW.alike⟩
theorem sx_after {st0 rest : List Value} {v : Option Value} {a : Array Value} {mc ms : Nat} (hr : va_Run p l e R s m args below meth c H locs cells slots mc ms (F0 m pc ls st0) (sx_upS ua rest) (sx_Qc D cl tys ex zs K0 base ua v hs1 a) (fun q => base ≤ q)) (hL : ∀ q ∈ locs, base ≤ q.base)
    (kk : ∀ (H1 : Heap) (locs1 : List Loc), sx_R D cl tys ex zs K0 base ua s hs1 H1 → (∀ q ∈ locs1, base ≤ q.base) → W p l e R s m args below meth c H1 locs1 (cells + mc) (slots + ms) Q (F0 m (pc + 3) ls (sx_upS ua (v.toList ++ rest)))) : W p l e R s m args below meth c H locs cells slots Q (F0 m pc ls st0) := by
  intro T hT X
  obtain ⟨v', st₀, t, T', L, h0, X', hL', e1, e2, ⟨hv, hR1⟩, stp⟩ := hr T hT X
  cases hv
  obtain ⟨t2, a1, b1⟩ := kk T'.heap (locs ++ L) (by rw [e1]; exact hR1.moved (by rw [← e2]; exact X'.warmed.alike.symm)) (fun q hq => (List.mem_append.mp hq).elim (hL q) (hL' q)) T' rfl X'
  refine ⟨t2, stp t2 ?_, b1⟩
  have es : sx_upS ua (v.toList ++ rest) = (v.map (sx_up ua)).toList ++ sx_upS ua rest := by
    cases v <;> rfl
  rw [es] at a1
  exact a1
end SXC
