/-! WHAT NO BYTECODE DOES: arraycopy, getClass, a class constant; and the JDK's checkIndex with a formatter that isn't known -/
def sx_gC : MethodName := ⟨"java/lang/Object", "getClass", "()Ljava/lang/Class;"⟩
def sx_pC : MethodName := ⟨"jdk/internal/util/Preconditions", "checkIndex", "(IILjava/util/function/BiFunction;)I"⟩
section SXNAT
variable (K0 : Nat) (tf : Nat → FieldType) (cst : Nat → Nat → Bool)
/-- an element that may be stored into an array of kind t -/
def sx_elok (t : Nat) (hs : sx_H) (r : Option Nat) : Bool := match r with
  | none => true
  | some y => (match sx_obj hs y with
    | some o => decide (K0 ≤ y) && cst (o.1 + 1) t
    | none => false)
def sx_ncp (st : List Value) (hs : sx_H) : Option (List Value × sx_H) := match st with
  | .int n :: .int dp :: .ref y :: .int sp :: .ref x :: r => (sx_arr hs x).bind fun o => (sx_arr hs y).bind fun q =>
    if (o.1 = q.1 ∧ K0 ≤ x ∧ K0 ≤ y) ∧ (¬ sp < 0 ∧ ¬ dp < 0 ∧ ¬ n < 0) ∧ sp.toNatClampNeg + n.toNatClampNeg ≤ o.2.1 ∧ dp.toNatClampNeg + n.toNatClampNeg ≤ q.2.1 then
      (match sx_ai o.2, sx_ai q.2, sx_aq o.2, sx_aq q.2 with
      | some f, some g, _, _ => if refKind (tf q.1) = false ∧ ∀ i, i < n.toNatClampNeg → sx_fit (tf q.1) (.int (f (sp.toNatClampNeg + i))) = true then some (r, hs.set y (.inl (q.1, (q.2.1, .inl (va_cpy f g sp.toNatClampNeg dp.toNatClampNeg n.toNatClampNeg))))) else none
      | _, _, some f, some g => if cst 0 q.1 = true ∧ ∀ i, i < n.toNatClampNeg → sx_elok K0 cst q.1 hs (f (sp.toNatClampNeg + i)) = true then some (r, hs.set y (.inl (q.1, (q.2.1, .inr (.inr (.inr (.inr (va_cpy f g sp.toNatClampNeg dp.toNatClampNeg n.toNatClampNeg)))))))) else none
      | _, _, _, _ => none)
    else none
  | _ => none
def sx_nmi (a : Nat) (hs : sx_H) : Bool := match hs[a]? with
  | some (.inr (.inr _)) => decide (a < K0)
  | _ => false
def sx_ngc (a : Nat) (st : List Value) (hs : sx_H) : Option (List Value) := match st with
  | .ref x :: r => (sx_arr hs x).bind fun o => if o.1 = 4 ∧ K0 ≤ x ∧ sx_nmi K0 a hs = true then some (.ref a :: r) else none
  | _ => none
def sx_nfm (st : List Value) : Option (List Value) := match st with
  | .int w :: .int i :: r => if ¬ i < 0 ∧ i < w then some (.int i :: r) else none
  | _ => none
/-- where it goes on, with which stack, on which heap (a class constant: with the comparison that stands behind it; checkIndex: with the field that stands ahead of it) -/
def sx_nt (i : Instr) (a pc : Nat) (st : List Value) (hs : sx_H) : Option (Nat × List Value × sx_H) := match i with
  | .invokestatic _ => (sx_ncp K0 tf cst st hs).bind fun q => some (pc + 3, q.1, q.2)
  | .invokevirtual _ => (sx_ngc K0 (a - 1000) st hs).bind fun q => some (pc + 3, q, hs)
  | .ldc _ => (sx_popR st).bind fun q => if q.1 = a - 1000 ∧ sx_nmi K0 (a - 1000) hs = true then some (pc + 5, q.2, hs) else none
  | .getstatic _ => (sx_nfm st).bind fun q => some (pc + 6, q, hs)
  | _ => none
/-- what must be known of it -/
def sx_okN (Ts xw : List Cond) (tf : Nat → FieldType) (own : String) (cc : ByteArray) (pc : Nat) (i : Instr) : Prop := match i with
  | .ldc idx => Cond.classLink own idx "[Ljava/lang/Object;" ∈ Ts ∧ ∃ (off : Int) (t : Nat), decode cc (pc + 2) = .ok (.if_acmp .ne off, 3) ∧ ((pc + 2 : Nat) : Int) + off = (t : Int)
  | .invokevirtual idx => Cond.methodLink own idx sx_gC ∈ Ts ∧ Cond.declares sx_gC ∈ xw ∧ Cond.selects "[Ljava/lang/Object;" sx_gC sx_gC ∈ Ts ∧ Cond.instanceMethod sx_gC ∈ Ts ∧ Cond.native sx_gC ∈ Ts ∧ tf 4 = .object "java/lang/Object"
  | .invokestatic idx => Cond.methodLink own idx arraycopyName ∈ Ts ∧ Cond.native arraycopyName ∈ Ts ∧ Cond.static arraycopyName ∈ Ts ∧ Cond.initialized "java/lang/System" ∈ Ts
  | .getstatic idx => Cond.fieldLink own idx "jdk/internal/util/Preconditions" "SIOOBE_FORMATTER" "Ljava/util/function/BiFunction;" ∈ Ts ∧ ∃ (ic : Nat) (bytes : ByteArray), decode cc (pc + 3) = .ok (.invokestatic ic, 3) ∧ Cond.methodLink own ic sx_pC ∈ Ts ∧ Cond.static sx_pC ∈ Ts ∧ Cond.initialized sx_pC.cls ∈ Ts ∧ Cond.code sx_pC bytes 3 (some .int) ∈ Ts ∧ decode bytes 0 = .ok (.iload_n 0, 1) ∧ decode bytes 1 = .ok (.ifCond .lt 8, 3) ∧ decode bytes 4 = .ok (.iload_n 0, 1) ∧ decode bytes 5 = .ok (.iload_n 1, 1) ∧ decode bytes 6 = .ok (.if_icmp .lt 10, 3) ∧ decode bytes 16 = .ok (.iload_n 0, 1) ∧ decode bytes 17 = .ok (.ireturn, 1)
  | _ => True
end SXNAT
theorem sx_nn {z : Int32} (hz : ¬ z < 0) : z.toInt = (z.toNatClampNeg : Int) := by
  have hz0 : (0 : Int) ≤ z.toInt := by
    have := Int32.not_lt.mp hz
    simpa using Int32.le_iff_toInt_le.mp this
  show z.toInt = ((z.toInt.toNat : Nat) : Int)
  omega
theorem sx_cpy_map (ua : Nat → Nat) (f g : Nat → Option Nat) (sp dp n : Nat) : va_cpy (fun j => (f j).map ua) (fun j => (g j).map ua) sp dp n = fun j => (va_cpy f g sp dp n j).map ua := by
  funext j
  unfold va_cpy
  split <;> rfl
theorem sx_nmi_inv {K0 a : Nat} {hs : sx_H} (h : sx_nmi K0 a hs = true) : a < K0 ∧ ∃ j : Nat, hs[a]? = some (.inr (.inr j)) := by
  unfold sx_nmi at h
  split at h
  · rename_i j hj
    exact ⟨of_decide_eq_true h, j, hj⟩
  · cases h
section SXNT
variable {p : Program} {l : Launch} {e : Env} {R : Room} {s : State} {m : MethodId} {args : Array Value} {below : List Frame} {meth : Method} {c : Code} {H : Heap} {locs : List Loc} {cells slots : Nat} {Q : State → Prop}
variable {cc : ByteArray} {pc nL : Nat} {ls : Array Slot} {rest : List Value}
variable {D : va_G} {cl : List vw_C} {tys : List (ClassId × FieldType)} {ex : List String} {zs : List (String × String × String × Value)} {K0 base : Nat} {ua : Nat → Nat} {hs : sx_H}
theorem sx_cpyi (hexec : p.tables.exec = Jvm.exec) (hb : c.code = cc) (hml : c.maxLocals = ls.size) {own : String} {index : Nat} (hown : s.vm.findClass own = some m.cls) (hlink : (Cond.methodLink own index arraycopyName).before args s = true) (hnat : (Cond.native arraycopyName).before args s = true) (hstat : (Cond.static arraycopyName).before args s = true) (hini : (Cond.initialized "java/lang/System").before args s = true)
    (hK : va_K D cl tys s) (hA : sx_A K0 base ua) (hR : sx_R D cl tys ex zs K0 base ua s hs H) (hL : ∀ q ∈ locs, base ≤ q.base) {x y t n0 n1 : Nat} {f g : Nat → Int32} (hx : hs[x]? = some (.inl (t, (n0, .inl f)))) (hy : hs[y]? = some (.inl (t, (n1, .inl g)))) (hxK : K0 ≤ x) (hyK : K0 ≤ y) {q : ClassId × FieldType} (ht : tys[t]? = some q) (hprim : refKind q.2 = false)
    {sp dp n : Int32} (h1 : ¬ sp < 0) (h2 : ¬ dp < 0) (h3 : ¬ n < 0) (h4 : sp.toNatClampNeg + n.toNatClampNeg ≤ n0) (h5 : dp.toNatClampNeg + n.toNatClampNeg ≤ n1) (hfit : ∀ i, i < n.toNatClampNeg → fits q.2 (.int (f (sp.toNatClampNeg + i))) = true)
    (hframes : 1 ≤ R.frames) (hlocals : ((sx_upS ua rest).map fun v => v.category).sum + (nativeFrameWords "java/lang/System" "arraycopy" 5 + 11) ≤ R.locals) (hdg : decode cc pc = .ok (.invokestatic index, 3))
    (kk : ∀ (H1 : Heap) (locs1 : List Loc), sx_R D cl tys ex zs K0 base ua s (hs.set y (.inl (t, (n1, .inl (va_cpy f g sp.toNatClampNeg dp.toNatClampNeg n.toNatClampNeg))))) H1 → (∀ q ∈ locs1, base ≤ q.base) → W p l e R s m args below meth c H1 locs1 cells slots Q (F0 m (pc + 3) ls (sx_upS ua rest))) : W p l e R s m args below meth c H locs cells slots Q (F0 m pc ls (sx_upS ua (.int n :: .int dp :: .ref y :: .int sp :: .ref x :: rest))) := by
  intro T hT X
  obtain ⟨q0, e0, hc0⟩ := hR.2.2.1 x _ hx hxK
  obtain ⟨q1, e1, hc1⟩ := hR.2.2.1 y _ hy hyK
  cases e0.symm.trans ht
  cases e1.symm.trans ht
  have hc0 : H[ua x]? = some (vp_cell q.1 (n0, .inl f)) := hc0
  have hc1 : H[ua y]? = some (vp_cell q.1 (n1, .inl g)) := hc1
  obtain ⟨-, k0, hk0, cm0, hkk0⟩ := (hK.2 t _ ht).1 n0 (fun j => .int (f j))
  obtain ⟨vm', X', step⟩ := X.arraycopy hexec hown hlink hnat hstat hini (src := ua x) (dst := ua y) (cs := vp_cell q.1 (n0, .inl f)) (cd := vp_cell q.1 (n1, .inl g)) (srcPos := sp) (destPos := dp) (n := n) (by rw [hT]; exact hc0) (by rw [hT]; exact hc1)
    (fun _ h => by cases h) (fun _ h => by cases h) (fun h => by cases h) (fun h => by cases h) hk0 hk0 hkk0 hkk0 (by simp [hprim]) h1 h2 h3
    (by rw [sx_nn h1, sx_nn h3]; show ¬ _ > ((arrV q.1 n0 (fun j => .int (f j))).slots.size : Int); rw [arrV_size]; omega)
    (by rw [sx_nn h2, sx_nn h3]; show ¬ _ > ((arrV q.1 n1 (fun j => .int (g j))).slots.size : Int); rw [arrV_size]; omega)
    (fun vm₁ _ i hi => by
      have e : (vp_cell q.1 (n0, .inl f)).slots.getD (sp.toNatClampNeg + i) .null = .int (f (sp.toNatClampNeg + i)) := by
        show (arrV q.1 n0 (fun j => .int (f j))).slots.getD _ _ = _
        rw [Array.getD_eq_getD_getElem?, arrV_read _ _ (by omega)]
        rfl
      refine ⟨?_, ?_⟩
      · rw [e]
        exact hfit i hi
      · rw [e]
        exact trivial)
    (g := F0 m pc ls (sx_upS ua (.int n :: .int dp :: .ref y :: .int sp :: .ref x :: rest))) rfl (by rw [hml]) (rest := sx_upS ua rest) rfl (by rw [hb]; exact hdg) hframes (by show 2 * 0 + _ + _ ≤ _; omega)
  have e1 : copied (vp_cell q.1 (n0, .inl f)) (vp_cell q.1 (n1, .inl g)) sp dp n = vp_cell q.1 (n1, .inl (va_cpy f g sp.toNatClampNeg dp.toNatClampNeg n.toNatClampNeg)) := va_copied (fun z => .int z) q.1 q.1 f g h4
  rw [e1] at X' step
  have hl : ua y < H.size := (Array.getElem?_eq_some_iff.mp hc1).1
  have hheap : ((T.setVm vm').setCell (ua y) (vp_cell q.1 (n1, .inl (va_cpy f g sp.toNatClampNeg dp.toNatClampNeg n.toNatClampNeg)))).heap = H.setIfInBounds (ua y) (vp_cell q.1 (n1, .inl (va_cpy f g sp.toNatClampNeg dp.toNatClampNeg n.toNatClampNeg))) := by rw [← hT]; rfl
  obtain ⟨t', a1, b1⟩ := kk _ _ (hR.set hA hy hyK ⟨q, ht, show (H.setIfInBounds (ua y) _)[ua y]? = some _ by simp [Array.getElem?_setIfInBounds, hl]; rfl⟩ (by simp) (fun q hq => by simp [Array.getElem?_setIfInBounds, Ne.symm hq])) (fun q hq => by
      rcases List.mem_append.mp hq with h | h
      · exact hL q h
      · obtain ⟨z, -, hz⟩ := List.mem_map.mp h
        rw [← hz]
        exact sx_base hA hyK) _ hheap X'
  exact ⟨t', step t' a1, b1⟩
theorem sx_cpyq (hexec : p.tables.exec = Jvm.exec) (hb : c.code = cc) (hml : c.maxLocals = ls.size) {own : String} {index : Nat} (hown : s.vm.findClass own = some m.cls) (hlink : (Cond.methodLink own index arraycopyName).before args s = true) (hnat : (Cond.native arraycopyName).before args s = true) (hstat : (Cond.static arraycopyName).before args s = true) (hini : (Cond.initialized "java/lang/System").before args s = true)
    (hK : va_K D cl tys s) (hA : sx_A K0 base ua) (hR : sx_R D cl tys ex zs K0 base ua s hs H) (hL : ∀ q ∈ locs, base ≤ q.base) {x y t n0 n1 : Nat} {f g : Nat → Option Nat} (hx : hs[x]? = some (.inl (t, (n0, .inr (.inr (.inr (.inr f))))))) (hy : hs[y]? = some (.inl (t, (n1, .inr (.inr (.inr (.inr g))))))) (hxK : K0 ≤ x) (hyK : K0 ≤ y) {cA : ClassId} {E : String} (ht : tys[t]? = some (cA, .object E))
    {sp dp n : Int32} (h1 : ¬ sp < 0) (h2 : ¬ dp < 0) (h3 : ¬ n < 0) (h4 : sp.toNatClampNeg + n.toNatClampNeg ≤ n0) (h5 : dp.toNatClampNeg + n.toNatClampNeg ≤ n1) (hel : ∀ i, i < n.toNatClampNeg → ∀ v, f (sp.toNatClampNeg + i) = some v → ∃ (ci : Nat) (vs : List Value) (r : vw_C), hs[v]? = some (.inr (.inl (ci, vs))) ∧ K0 ≤ v ∧ cl[ci]? = some r ∧ (r.1 = E ∨ va_Nw (.castable r.1 E) s))
    (hframes : 1 ≤ R.frames) (hlocals : ((sx_upS ua rest).map fun v => v.category).sum + (nativeFrameWords "java/lang/System" "arraycopy" 5 + 11) ≤ R.locals) (hdg : decode cc pc = .ok (.invokestatic index, 3))
    (kk : ∀ (H1 : Heap) (locs1 : List Loc), sx_R D cl tys ex zs K0 base ua s (hs.set y (.inl (t, (n1, .inr (.inr (.inr (.inr (va_cpy f g sp.toNatClampNeg dp.toNatClampNeg n.toNatClampNeg)))))))) H1 → (∀ q ∈ locs1, base ≤ q.base) → W p l e R s m args below meth c H1 locs1 cells slots Q (F0 m (pc + 3) ls (sx_upS ua rest))) : W p l e R s m args below meth c H locs cells slots Q (F0 m pc ls (sx_upS ua (.int n :: .int dp :: .ref y :: .int sp :: .ref x :: rest))) := by
  intro T hT X
  obtain ⟨q0, e0, hc0⟩ := hR.2.2.1 x _ hx hxK
  obtain ⟨q1, e1, hc1⟩ := hR.2.2.1 y _ hy hyK
  cases e0.symm.trans ht
  cases e1.symm.trans ht
  have hc0 : H[ua x]? = some (vp_cell cA (n0, .inr (.inr (.inr (.inr (fun j => (f j).map ua)))))) := hc0
  have hc1 : H[ua y]? = some (vp_cell cA (n1, .inr (.inr (.inr (.inr (fun j => (g j).map ua)))))) := hc1
  obtain ⟨-, k0, hk0, cm0, hkk0⟩ := (hK.2 t _ ht).1 n0 (fun j => va_rf ((f j).map ua))
  obtain ⟨vm', X', step⟩ := X.arraycopy hexec hown hlink hnat hstat hini (src := ua x) (dst := ua y) (cs := vp_cell cA (n0, .inr (.inr (.inr (.inr (fun j => (f j).map ua)))))) (cd := vp_cell cA (n1, .inr (.inr (.inr (.inr (fun j => (g j).map ua)))))) (srcPos := sp) (destPos := dp) (n := n) (by rw [hT]; exact hc0) (by rw [hT]; exact hc1)
    (fun _ h => by cases h) (fun _ h => by cases h) (fun h => by cases h) (fun h => by cases h) hk0 hk0 hkk0 hkk0 rfl h1 h2 h3
    (by rw [sx_nn h1, sx_nn h3]; show ¬ _ > ((arrV cA n0 (fun j => va_rf ((f j).map ua))).slots.size : Int); rw [arrV_size]; omega)
    (by rw [sx_nn h2, sx_nn h3]; show ¬ _ > ((arrV cA n1 (fun j => va_rf ((g j).map ua))).slots.size : Int); rw [arrV_size]; omega)
    (fun vm₁ hal i hi => by
      have e : (vp_cell cA (n0, .inr (.inr (.inr (.inr (fun j => (f j).map ua)))))).slots.getD (sp.toNatClampNeg + i) .null = va_rf ((f (sp.toNatClampNeg + i)).map ua) := by
        show (arrV cA n0 (fun j => va_rf ((f j).map ua))).slots.getD _ _ = _
        rw [Array.getD_eq_getD_getElem?, arrV_read _ _ (by omega)]
        rfl
      rw [e]
      cases hv : f (sp.toNatClampNeg + i) with
      | none => exact ⟨rfl, trivial⟩
      | some v =>
        obtain ⟨ci, vs, r, hv1, hvK, hr, hca⟩ := hel i hi v hv
        obtain ⟨r', hr', cellV, g1, g2, g3, -⟩ := hR.2.2.1 v _ hv1 hvK
        have hcls := (hK.1 ci r hr).2
        obtain ⟨kA, comp, r1, r2, r3, -⟩ := (hK.2 t _ ht).2
        cases hk0.symm.trans r1
        cases hkk0.symm.trans r2
        obtain ⟨kC, hkC, -⟩ := hcls.2
        obtain ⟨kE, hkE, -⟩ := Vm.findClass_spec r3
        obtain ⟨kC', hkC', -⟩ := hal.2.2 _ _ hkC
        obtain ⟨kE', hkE', -⟩ := hal.2.2 _ _ hkE
        have hasg : s.vm.assignable (D.1 ci) cm0 = true := by
          rcases hca with hca | hca
          · have hcomp : cm0 = D.1 ci := by rw [← hca] at r3; exact Option.some.inj (r3.symm.trans hcls.1)
            rw [hcomp]
            exact va_assign hcls
          · obtain ⟨c0, t1, f1, f2, f3⟩ := Cond.castable_spec (va_Nw.use (A := args) rfl hca)
            cases hcls.1.symm.trans f1
            cases r3.symm.trans f2
            exact f3
        refine ⟨rfl, cellV, (show T.heap[ua v]? = some cellV by rw [hT]; exact g1), (fun q h => by rw [g3] at h; cases h), ⟨kC', by rw [g2]; exact hkC'⟩, ?_, ?_⟩
        · exact ⟨kE', hkE'⟩
        · show vm₁.assignable _ _ = true
          rw [hal.assignable, g2]
          exact hasg)
    (g := F0 m pc ls (sx_upS ua (.int n :: .int dp :: .ref y :: .int sp :: .ref x :: rest))) rfl (by rw [hml]) (rest := sx_upS ua rest) rfl (by rw [hb]; exact hdg) hframes (by show 2 * 0 + _ + _ ≤ _; omega)
  have e1 : copied (vp_cell cA (n0, .inr (.inr (.inr (.inr (fun j => (f j).map ua)))))) (vp_cell cA (n1, .inr (.inr (.inr (.inr (fun j => (g j).map ua)))))) sp dp n = vp_cell cA (n1, .inr (.inr (.inr (.inr (fun j => (va_cpy f g sp.toNatClampNeg dp.toNatClampNeg n.toNatClampNeg j).map ua))))) := by
    have e2 := va_copied (fun z => va_rf z) cA cA (n0 := n0) (n1 := n1) (fun j => (f j).map ua) (fun j => (g j).map ua) (dp := dp.toNatClampNeg) h4
    rw [sx_cpy_map] at e2
    exact e2
  rw [e1] at X' step
  have hl : ua y < H.size := (Array.getElem?_eq_some_iff.mp hc1).1
  have hheap : ((T.setVm vm').setCell (ua y) (vp_cell cA (n1, .inr (.inr (.inr (.inr (fun j => (va_cpy f g sp.toNatClampNeg dp.toNatClampNeg n.toNatClampNeg j).map ua))))))).heap = H.setIfInBounds (ua y) (vp_cell cA (n1, .inr (.inr (.inr (.inr (fun j => (va_cpy f g sp.toNatClampNeg dp.toNatClampNeg n.toNatClampNeg j).map ua)))))) := by rw [← hT]; rfl
  obtain ⟨t', a1, b1⟩ := kk _ _ (hR.set hA hy hyK ⟨(cA, .object E), ht, show (H.setIfInBounds (ua y) _)[ua y]? = some _ by simp [Array.getElem?_setIfInBounds, hl]; rfl⟩ (by simp) (fun q hq => by simp [Array.getElem?_setIfInBounds, Ne.symm hq])) (fun q hq => by
      rcases List.mem_append.mp hq with h | h
      · exact hL q h
      · obtain ⟨z, -, hz⟩ := List.mem_map.mp h
        rw [← hz]
        exact sx_base hA hyK) _ hheap X'
  exact ⟨t', step t' a1, b1⟩
end SXNT
