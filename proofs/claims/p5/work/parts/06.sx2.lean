/-! THE ABSTRACT HEAP: a list of cells; place k stands at the address 'ua k'. Places below K0: arrays that were there before (read alone); from K0 on: what the program makes, one behind the other from the address 'base' on -/
abbrev sx_C : Type := (Nat × vp_A) ⊕ ((Nat × List Value) ⊕ Nat)
abbrev sx_H : Type := List sx_C
def sx_upA (ua : Nat → Nat) (x : vp_A) : vp_A := match x with
  | (n, .inr (.inr (.inr (.inr g)))) => (n, .inr (.inr (.inr (.inr (fun j => (g j).map ua)))))
  | (n, .inr (.inr (.inr (.inl g)))) => (n, .inr (.inr (.inr (.inl g))))
  | (n, .inr (.inr (.inl g))) => (n, .inr (.inr (.inl g)))
  | (n, .inr (.inl g)) => (n, .inr (.inl g))
  | (n, .inl g) => (n, .inl g)
def sx_val (x : vp_A) (j : Nat) : Value := match x.2 with
  | .inl f => .int (f j)
  | .inr (.inl f) => .long (f j)
  | .inr (.inr (.inl f)) => .float (f j)
  | .inr (.inr (.inr (.inl f))) => .double (f j)
  | .inr (.inr (.inr (.inr g))) => va_rf (g j)
theorem sx_upA_n (ua : Nat → Nat) (x : vp_A) : (sx_upA ua x).1 = x.1 := by
  obtain ⟨n, f | f | f | f | f⟩ := x <;> rfl
theorem sx_up_rf (ua : Nat → Nat) (r : Option Nat) : sx_up ua (va_rf r) = va_rf (r.map ua) := by cases r <;> rfl
theorem sx_val_up (ua : Nat → Nat) (x : vp_A) (j : Nat) : sx_val (sx_upA ua x) j = sx_up ua (sx_val x j) := by
  obtain ⟨n, f | f | f | f | f⟩ := x
  · rfl
  · rfl
  · rfl
  · rfl
  · exact (sx_up_rf ua (f j)).symm
theorem sx_cellV (cA : ClassId) (x : vp_A) : vp_cell cA x = arrV cA x.1 (sx_val x) := by
  obtain ⟨n, f | f | f | f | f⟩ := x <;> rfl
/-- an array that can be read -/
def sx_rd (U : State) (ty : FieldType) (n : Nat) (f : Nat → Value) (a : Nat) (H : Heap) : Prop := ∃ scr : Cell, H[a]? = some scr ∧ U.isArrayOf scr ty ∧ scr.vm ≠ .unknown ∧ (n ≤ scr.slots.size ∧ scr.slots.size.toInt32 = Int32.ofNat n) ∧ ∀ j : Nat, j < n → scr.slots[j]? = some (f j)
/-- a cell that the program made -/
def sx_cellS (D : va_G) (cl : List vw_C) (tys : List (ClassId × FieldType)) (ex : List String) (U : State) (ua : Nat → Nat) (c : sx_C) (a : Nat) (H : Heap) : Prop := match c with
  | .inl (t, x) => ∃ q : ClassId × FieldType, tys[t]? = some q ∧ H[a]? = some (vp_cell q.1 (sx_upA ua x))
  | .inr (.inl (ci, fs)) => va_at D cl (a, .inr (ci, fs.map (sx_up ua))) H
  | .inr (.inr j) => ∃ (cell : Cell) (X : String), ex[j]? = some X ∧ H[a]? = some cell ∧ cell.vm.isStatics = false ∧ U.vm.findClass X = some cell.cls
/-- a cell that was there -/
def sx_cellW (tys : List (ClassId × FieldType)) (U : State) (ua : Nat → Nat) (c : sx_C) (a : Nat) (H : Heap) : Prop := match c with
  | .inl (t, x) => ∃ q : ClassId × FieldType, tys[t]? = some q ∧ sx_rd U q.2 x.1 (fun j => sx_up ua (sx_val x j)) a H
  | .inr (.inl _) => False
  | .inr (.inr _) => va_Mi "[Ljava/lang/Object;" a U
/-- a static field of a reference type that is laid -/
def sx_LS (base : Nat) (C n d : String) (U : State) (H : Heap) : Prop := ∃ (c : ClassId) (k : Class) (i : Nat) (f : Field) (a : Nat) (cell : Cell) (v : Value), U.vm.findClass C = some c ∧ U.fieldFound? C n d = some (c, k, i, f) ∧ f.isStatic = true ∧ k.statics = some a ∧ H[a]? = some cell ∧ cell.vm.isStatics = true ∧ cell.cls = c ∧ f.slot < cell.slots.size ∧ k.staticTypes[f.slot]? = some f.type ∧ cell.slots[f.slot]? = some v ∧ (v = .null ∨ ∃ x, v = .ref x) ∧ a < base
theorem sx_LS.moved {base : Nat} {C n d : String} {u U : State} {H : Heap} (hvm : u.vm.Alike U.vm) (h : sx_LS base C n d u H) : sx_LS base C n d U H := by
  obtain ⟨c, k, i, f, a, cell, v, h1, h2, h3, h4, h5, h6, h7, h8, h9, h10⟩ := h
  obtain ⟨k', hi', he⟩ := State.fieldFound?_setVm hvm h2
  exact ⟨c, k', i, f, a, cell, v, by rw [hvm.findClass]; exact h1, hi', h3, by rw [he]; exact h4, h5, h6, h7, h8, by rw [he]; exact h9, h10⟩
theorem sx_LS.kept {base : Nat} {C n d : String} {U : State} {H H1 : Heap} (h : sx_LS base C n d U H) (hq : ∀ a : Nat, a < H.size → a < base → H1[a]? = H[a]?) : sx_LS base C n d U H1 := by
  obtain ⟨c, k, i, f, a, cell, v, h1, h2, h3, h4, h5, h6, h7, h8, h9, h10, h11, h12⟩ := h
  exact ⟨c, k, i, f, a, cell, v, h1, h2, h3, h4, by rw [hq a (Array.getElem?_eq_some_iff.mp h5).1 h12]; exact h5, h6, h7, h8, h9, h10, h11, h12⟩
theorem sx_LS.lays {base : Nat} {C n d : String} {U : State} (h : sx_LS base C n d U U.heap) (args : Array Value) : (Cond.laysStatic C n d).before args U = true := by
  obtain ⟨c, k, i, f, a, cell, v, h1, h2, h3, h4, h5, h6, h7, h8, h9, h10, h11, h12⟩ := h
  simp [Cond.before, Cond.holds, Cond.value, h1, h2, h3, h4, h5, h6, h7, h8, h9]
theorem sx_LS.isRef {base : Nat} {C n d : String} {U : State} (h : sx_LS base C n d U U.heap) (args : Array Value) : (Cond.isRef (.static C n d)).before args U = true := by
  obtain ⟨c, k, i, f, a, cell, v, h1, h2, h3, h4, h5, h6, h7, h8, h9, h10, h11, h12⟩ := h
  have he : (Term.static C n d).eval args U none [] U = some v := by
    simp [Term.eval, State.fieldNamed?, h2, h3, h4, h5, h6, h10]
  simp only [Cond.before, Cond.holds, Cond.value, he]
  rcases h11 with e | ⟨x, e⟩ <;> simp [e]
theorem sx_LS.of {args : Array Value} {s : State} {base : Nat} {C n d : String} (hl : (Cond.laysStatic C n d).before args s = true) (hr : (Cond.isRef (.static C n d)).before args s = true) (hb : s.heap.size ≤ base) : sx_LS base C n d s s.heap := by
  obtain ⟨c, k, i, f, a, cell, hc, hi, hst, ha, hcell, hs, hcls, hlt, hty⟩ := Cond.laysStatic_spec hl
  have hv : cell.slots[f.slot]? = some cell.slots[f.slot] := Array.getElem?_eq_getElem hlt
  have he : (Term.static C n d).eval args s none [] s = some cell.slots[f.slot] := by
    simp [Term.eval, State.fieldNamed?, hi, hst, ha, hcell, hs, hv]
  refine ⟨c, k, i, f, a, cell, _, hc, hi, hst, ha, hcell, hs, hcls, hlt, hty, hv, ?_, Nat.lt_of_lt_of_le (Array.getElem?_eq_some_iff.mp hcell).1 hb⟩
  simp only [Cond.before, Cond.holds, Cond.value, he] at hr
  cases hz : cell.slots[f.slot] with
  | null => exact Or.inl rfl
  | ref x => exact Or.inr ⟨x, rfl⟩
  | _ => rw [hz] at hr; simp at hr
/-- static fields that hold what they held; and the two of Throwable's -/
def sx_Z (base : Nat) (ua : Nat → Nat) (U : State) (zs : List (String × String × String × Value)) (H : Heap) : Prop := (∀ z ∈ zs, va_Z z.1 z.2.1 z.2.2.1 (sx_up ua z.2.2.2) (fun q => base ≤ q) U H) ∧ sx_LS base Bundle.tN "UNASSIGNED_STACK" Bundle.steD U H ∧ sx_LS base Bundle.tN "SUPPRESSED_SENTINEL" Bundle.listD U H ∧ va_Zq "jdk/internal/util/Preconditions" "SIOOBE_FORMATTER" "Ljava/util/function/BiFunction;" (fun q => base ≤ q) U H
def sx_R (D : va_G) (cl : List vw_C) (tys : List (ClassId × FieldType)) (ex : List String) (zs : List (String × String × String × Value)) (K0 base : Nat) (ua : Nat → Nat) (U : State) (hs : sx_H) (H : Heap) : Prop :=
  K0 ≤ hs.length ∧ H.size + K0 = base + hs.length ∧ (∀ (k : Nat) (c : sx_C), hs[k]? = some c → K0 ≤ k → sx_cellS D cl tys ex U ua c (ua k) H) ∧ (∀ (k : Nat) (c : sx_C), hs[k]? = some c → k < K0 → (k = 4 → ∃ j, c = .inr (.inr j)) ∧ sx_cellW tys U ua c (ua k) H) ∧ sx_Z base ua U zs H
def sx_A (K0 base : Nat) (ua : Nat → Nat) : Prop := (∀ k, K0 ≤ k → ua k + K0 = base + k) ∧ (∀ k, k < K0 → k ≠ 4 → ua k < base) ∧ (∀ a b, a ≠ 4 → b ≠ 4 → ua a = ua b → a = b) ∧ 4 < K0
theorem sx_rd.kept {U : State} {ty : FieldType} {n : Nat} {f : Nat → Value} {a : Nat} {H H1 : Heap} (h : sx_rd U ty n f a H) (hq : H1[a]? = H[a]?) : sx_rd U ty n f a H1 := by
  obtain ⟨scr, h1, h2⟩ := h
  exact ⟨scr, hq.trans h1, h2⟩
theorem sx_rd.moved {u U : State} (hvm : u.vm.Alike U.vm) {ty : FieldType} {n : Nat} {f : Nat → Value} {a : Nat} {H : Heap} (h : sx_rd u ty n f a H) : sx_rd U ty n f a H := by
  obtain ⟨scr, h1, h2, h3⟩ := h
  exact ⟨scr, h1, State.isArrayOf_alike hvm h2, h3⟩
theorem sx_cellS.kept {D : va_G} {cl : List vw_C} {tys : List (ClassId × FieldType)} {ex : List String} {U : State} {ua : Nat → Nat} {c : sx_C} {a : Nat} {H H1 : Heap} (h : sx_cellS D cl tys ex U ua c a H) (hq : H1[a]? = H[a]?) : sx_cellS D cl tys ex U ua c a H1 := by
  obtain ⟨t, x⟩ | ⟨ci, fs⟩ | j := c
  · obtain ⟨q, h1, h2⟩ := h
    exact ⟨q, h1, hq.trans h2⟩
  · exact va_at.kept (D := D) (cl := cl) (q := (a, .inr (ci, fs.map (sx_up ua)))) (H := H) h hq
  · obtain ⟨cell, X, h1, h2, h3⟩ := h
    exact ⟨cell, X, h1, hq.trans h2, h3⟩
theorem sx_cellS.moved {D : va_G} {cl : List vw_C} {tys : List (ClassId × FieldType)} {ex : List String} {u U : State} (hvm : u.vm.Alike U.vm) {ua : Nat → Nat} {c : sx_C} {a : Nat} {H : Heap} (h : sx_cellS D cl tys ex u ua c a H) : sx_cellS D cl tys ex U ua c a H := by
  obtain ⟨t, x⟩ | ⟨ci, fs⟩ | j := c
  · exact h
  · exact h
  · obtain ⟨cell, X, h1, h2, h3, h4⟩ := h
    exact ⟨cell, X, h1, h2, h3, by rw [hvm.findClass]; exact h4⟩
theorem sx_cellW.kept {tys : List (ClassId × FieldType)} {U : State} {ua : Nat → Nat} {c : sx_C} {a : Nat} {H H1 : Heap} (h : sx_cellW tys U ua c a H) (hq : H1[a]? = H[a]?) : sx_cellW tys U ua c a H1 := by
  obtain ⟨t, x⟩ | ⟨ci, fs⟩ | j := c
  · obtain ⟨q, h1, h2⟩ := h
    exact ⟨q, h1, h2.kept hq⟩
  · exact h
  · exact h
theorem sx_cellW.moved {tys : List (ClassId × FieldType)} {u U : State} (hvm : u.vm.Alike U.vm) {ua : Nat → Nat} {c : sx_C} {a : Nat} {H : Heap} (h : sx_cellW tys u ua c a H) : sx_cellW tys U ua c a H := by
  obtain ⟨t, x⟩ | ⟨ci, fs⟩ | j := c
  · obtain ⟨q, h1, h2⟩ := h
    exact ⟨q, h1, h2.moved hvm⟩
  · exact h
  · exact va_Mi.moved hvm h
theorem sx_Z.moved {base : Nat} {ua : Nat → Nat} {u U : State} {zs : List (String × String × String × Value)} {H : Heap} (hvm : u.vm.Alike U.vm) (h : sx_Z base ua u zs H) : sx_Z base ua U zs H := ⟨fun z hz => (h.1 z hz).moved hvm, h.2.1.moved hvm, h.2.2.1.moved hvm, h.2.2.2.moved hvm⟩
theorem sx_Z.kept {base : Nat} {ua : Nat → Nat} {U : State} {zs : List (String × String × String × Value)} {H H1 : Heap} (h : sx_Z base ua U zs H) (hq : ∀ a : Nat, a < H.size → a < base → H1[a]? = H[a]?) : sx_Z base ua U zs H1 := ⟨fun z hz => (h.1 z hz).kept (fun a h1 h2 => hq a h1 (by omega)), h.2.1.kept hq, h.2.2.1.kept hq, h.2.2.2.kept (fun a h1 h2 => hq a h1 (by omega))⟩
section SXR
variable {D : va_G} {cl : List vw_C} {tys : List (ClassId × FieldType)} {ex : List String} {zs : List (String × String × String × Value)} {K0 base : Nat} {ua : Nat → Nat} {U : State} {hs : sx_H} {H : Heap}
theorem sx_R.moved {u : State} (hvm : u.vm.Alike U.vm) (h : sx_R D cl tys ex zs K0 base ua u hs H) : sx_R D cl tys ex zs K0 base ua U hs H :=
  ⟨h.1, h.2.1, fun k c hk hK => (h.2.2.1 k c hk hK).moved hvm, fun k c hk hK => ⟨(h.2.2.2.1 k c hk hK).1, (h.2.2.2.1 k c hk hK).2.moved hvm⟩, h.2.2.2.2.moved hvm⟩
theorem sx_R.lt (hA : sx_A K0 base ua) (h : sx_R D cl tys ex zs K0 base ua U hs H) {k : Nat} {c : sx_C} (hk : hs[k]? = some c) (h4 : k ≠ 4) : ua k < H.size := by
  have hl : k < hs.length := (List.getElem?_eq_some_iff.mp hk).1
  have h2 := h.2.1
  have h1 := h.1
  by_cases hK : K0 ≤ k
  · have := hA.1 k hK
    omega
  · have := hA.2.1 k (by omega) h4
    omega
theorem sx_R.set (hA : sx_A K0 base ua) (hR : sx_R D cl tys ex zs K0 base ua U hs H) {a : Nat} {c0 c : sx_C} (h0 : hs[a]? = some c0) (ha : K0 ≤ a) {H1 : Heap} (hc : sx_cellS D cl tys ex U ua c (ua a) H1) (z : H1.size = H.size) (o : ∀ q : Nat, q ≠ ua a → H1[q]? = H[q]?) : sx_R D cl tys ex zs K0 base ua U (hs.set a c) H1 := by
  have hl : a < hs.length := (List.getElem?_eq_some_iff.mp h0).1
  refine ⟨by rw [List.length_set]; exact hR.1, by rw [List.length_set, z]; exact hR.2.1, fun k c' hk hK => ?_, fun k c' hk hK => ?_, hR.2.2.2.2.kept (fun q _ hb => o q (fun e => by have := hA.1 a ha; omega))⟩
  · by_cases e : k = a
    · subst e
      rw [List.getElem?_set_self hl] at hk
      cases hk
      exact hc
    · rw [List.getElem?_set_ne (Ne.symm e)] at hk
      exact (hR.2.2.1 k c' hk hK).kept (o _ (fun q => e (hA.2.2.1 _ _ (by have := hA.2.2.2; omega) (by have := hA.2.2.2; omega) q)))
  · have e : k ≠ a := by omega
    rw [List.getElem?_set_ne (Ne.symm e)] at hk
    obtain ⟨g1, g2⟩ := hR.2.2.2.1 k c' hk hK
    refine ⟨g1, ?_⟩
    by_cases e4 : k = 4
    · obtain ⟨j, rfl⟩ := g1 e4
      exact g2
    · exact g2.kept (o _ (fun q => e (hA.2.2.1 _ _ e4 (by have := hA.2.2.2; omega) q)))
theorem sx_R.new (hA : sx_A K0 base ua) (hR : sx_R D cl tys ex zs K0 base ua U hs H) : ua hs.length = H.size := by
  have h1 := hA.1 hs.length hR.1
  have h2 := hR.2.1
  omega
theorem sx_R.push (hA : sx_A K0 base ua) (hR : sx_R D cl tys ex zs K0 base ua U hs H) {c : sx_C} {H1 : Heap} (z : H1.size = H.size + 1) (hc : sx_cellS D cl tys ex U ua c H.size H1) (o : ∀ q : Nat, q < H.size → H1[q]? = H[q]?) : sx_R D cl tys ex zs K0 base ua U (hs ++ [c]) H1 := by
  have h1 := hR.1
  have h2 := hR.2.1
  refine ⟨by rw [List.length_append]; omega, by rw [List.length_append, z]; simp only [List.length_singleton]; omega, fun k c' hk hK => ?_, fun k c' hk hK => ?_, hR.2.2.2.2.kept (fun q h _ => o q h)⟩
  · by_cases e : k < hs.length
    · rw [List.getElem?_append_left e] at hk
      exact (hR.2.2.1 k c' hk hK).kept (o _ (hR.lt hA hk (by have := hA.2.2.2; omega)))
    · rw [List.getElem?_append_right (by omega)] at hk
      have hz : k - hs.length < 1 := (List.getElem?_eq_some_iff.mp hk).1
      have hke : k = hs.length := by omega
      subst hke
      rw [Nat.sub_self] at hk
      cases hk
      rw [hR.new hA]
      exact hc
  · have e : k < hs.length := by omega
    rw [List.getElem?_append_left e] at hk
    obtain ⟨g1, g2⟩ := hR.2.2.2.1 k c' hk hK
    refine ⟨g1, ?_⟩
    by_cases e4 : k = 4
    · obtain ⟨j, rfl⟩ := g1 e4
      exact g2
    · exact g2.kept (o _ (hR.lt hA hk e4))
/-- what the program made is no class's cell of statics -/
theorem sx_R.noStat (hA : sx_A K0 base ua) (hR : sx_R D cl tys ex zs K0 base ua U hs H) {q : Nat} {cell : Cell} (hq : base ≤ q) (hc : H[q]? = some cell) : cell.vm.isStatics = false := by
  have h1 := hR.1
  have h2 := hR.2.1
  have hlt : q < H.size := (Array.getElem?_eq_some_iff.mp hc).1
  have hk : q - base + K0 < hs.length := by omega
  have hu : ua (q - base + K0) = q := by
    have h3 := hA.1 (q - base + K0) (by omega)
    omega
  have hz := hR.2.2.1 (q - base + K0) _ (List.getElem?_eq_getElem hk) (by omega)
  rw [hu] at hz
  generalize hs[q - base + K0] = cc at hz
  obtain ⟨t, x⟩ | ⟨ci, fs⟩ | j := cc
  · obtain ⟨q', g1, g2⟩ := hz
    rw [sx_cellV] at g2
    cases hc.symm.trans g2
    rfl
  · obtain ⟨r, g1, cell', g2, g3, g4, -⟩ := hz
    cases hc.symm.trans g2
    rw [g4]
    rfl
  · obtain ⟨cell', X, g1, g2, g3, -⟩ := hz
    cases hc.symm.trans g2
    exact g3
/-- any array of the abstract heap can be read -/
theorem sx_R.rd (hK : va_K D cl tys U) (hR : sx_R D cl tys ex zs K0 base ua U hs H) {a t : Nat} {x : vp_A} (he : hs[a]? = some (.inl (t, x))) {q : ClassId × FieldType} (ht : tys[t]? = some q) : sx_rd U q.2 x.1 (fun j => sx_up ua (sx_val x j)) (ua a) H := by
  by_cases ha : K0 ≤ a
  · obtain ⟨q', h1, h2⟩ := hR.2.2.1 a _ he ha
    have e : q' = q := Option.some.inj (h1.symm.trans ht)
    subst e
    refine ⟨_, h2, ?_, ?_, ?_, ?_⟩
    · rw [sx_cellV]
      exact (hK.2 t _ ht).1 _ _
    · rw [sx_cellV]
      intro h
      cases h
    · rw [sx_cellV, arrV_size, sx_upA_n]
      exact ⟨Nat.le_refl _, rfl⟩
    · intro j hj
      rw [sx_cellV, arrV_read _ _ (by rw [sx_upA_n]; exact hj), sx_val_up]
  · obtain ⟨q', h1, h2⟩ := (hR.2.2.2.1 a _ he (by omega)).2
    have e : q' = q := Option.some.inj (h1.symm.trans ht)
    subst e
    exact h2
end SXR
theorem sx_one {D : va_G} {cl : List vw_C} {a : Nat} {e : va_E} {H : Heap} (h : va_at D cl (a, e) H) : va_P D cl [(a, e)] H := by
  intro k q hk
  have hz : k < 1 := (List.getElem?_eq_some_iff.mp hk).1
  rw [show k = 0 by omega] at hk
  cases hk
  exact h
theorem sx_narrow (ua : Nat → Nat) (ty : FieldType) (v : Value) : narrow ty (sx_up ua v) = sx_up ua (narrow ty v) := by
  cases ty <;> cases v <;> rfl
theorem sx_fits (ua : Nat → Nat) (ty : FieldType) (v : Value) : fits ty (sx_up ua v) = fits ty v := by
  cases ty <;> cases v <;> rfl
theorem sx_locs {base a i : Nat} {locs : List Loc} (h : ∀ q ∈ locs, base ≤ q.base) (ha : base ≤ a) : ∀ q ∈ locs ++ [(⟨a, i⟩ : Loc)], base ≤ q.base := by
  intro q hq
  rcases List.mem_append.mp hq with h1 | h1
  · exact h q h1
  · rw [List.mem_singleton.mp h1]
    exact ha
section SXH
variable {p : Program} {l : Launch} {e : Env} {R : Room} {s : State} {m : MethodId} {args : Array Value} {below : List Frame} {meth : Method} {c : Code} {H : Heap} {locs : List Loc} {cells slots : Nat} {Q : State → Prop}
variable {cc : ByteArray} {pc nL : Nat} {ls : Array Slot} {st : List Value}
variable {D : va_G} {cl : List vw_C} {tys : List (ClassId × FieldType)} {ex : List String} {zs : List (String × String × String × Value)} {K0 base : Nat} {ua : Nat → Nat} {hs : sx_H}
theorem sx_get (hexec : p.tables.exec = Jvm.exec) (hb : c.code = cc) {own ref C : String} {T : u_T} {N ci index : Nat} {Ts : List Cond} (hts : ∀ w ∈ Ts, w.before args s = true) (hin : ∀ w ∈ u_ws C T N, w ∈ Ts) (hown : s.vm.findClass own = some m.cls) (hK : va_K D cl tys s) (hR : sx_R D cl tys ex zs K0 base ua s hs H) {a : Nat} {fs : List Value} (he : hs[a]? = some (.inr (.inl (ci, fs)))) (ha : K0 ≤ a) (hc : cl[ci]? = some (C, T, N)) (k : Nat) (hk : k < N) (hlink : (Cond.fieldLink own index ref (T k).2.1 (T k).2.2.1).before args s = true) (hsame : ∀ x, s.fieldFound? (T k).1 (T k).2.1 (T k).2.2.1 = some x → s.fieldFound? ref (T k).2.1 (T k).2.2.1 = some x) {v : Value} (hv : fs[k]? = some v) (hdg : decode cc pc = .ok (.getfield index, 3))
    (kk : W p l e R s m args below meth c H locs cells slots Q (F0 m (pc + 3) ls (sx_upS ua (v :: st)))) : W p l e R s m args below meth c H locs cells slots Q (F0 m pc ls (sx_upS ua (.ref a :: st))) :=
  va_get (D := D) (v := sx_up ua v) hexec hb hts hin hown hK (sx_one (D := D) (cl := cl) (a := ua a) (e := .inr (ci, fs.map (sx_up ua))) (hR.2.2.1 a _ he ha)) 0 rfl hc k hk hlink hsame (by rw [List.getElem?_map, hv]; rfl) hdg kk
theorem sx_base (hA : sx_A K0 base ua) {a : Nat} (ha : K0 ≤ a) : base ≤ ua a := by
  have := hA.1 a ha
  omega
theorem sx_mapset (ua : Nat → Nat) (fs : List Value) (k : Nat) (v : Value) : (fs.set k v).map (sx_up ua) = (fs.map (sx_up ua)).set k (sx_up ua v) := List.map_set
theorem sx_put (hexec : p.tables.exec = Jvm.exec) (hb : c.code = cc) {own ref C : String} {T : u_T} {N ci index : Nat} {Ts : List Cond} (hts : ∀ w ∈ Ts, w.before args s = true) (hin : ∀ w ∈ u_ws C T N, w ∈ Ts) (ty0 : Nat → FieldType) (hty : ∀ k, k < N → parseFieldDescriptor (T k).2.2.1 = some (ty0 k)) (hnm : ∀ a, a < N → ∀ b, b < N → a ≠ b → (T a).2.1 ≠ (T b).2.1) (hown : s.vm.findClass own = some m.cls) (hK : va_K D cl tys s) (hA : sx_A K0 base ua) (hR : sx_R D cl tys ex zs K0 base ua s hs H) (hL : ∀ q ∈ locs, base ≤ q.base) {a : Nat} {fs : List Value} (he : hs[a]? = some (.inr (.inl (ci, fs)))) (ha : K0 ≤ a) (hc : cl[ci]? = some (C, T, N)) (k : Nat) (hk : k < N) (hlink : (Cond.fieldLink own index ref (T k).2.1 (T k).2.2.1).before args s = true) (hsame : ∀ x, s.fieldFound? (T k).1 (T k).2.1 (T k).2.2.1 = some x → s.fieldFound? ref (T k).2.1 (T k).2.2.1 = some x) (hfin : (T k).2.2.2 = false) {ty : FieldType} {v : Value} (hd : parseFieldDescriptor (T k).2.2.1 = some ty) (hn : narrow ty v = v) (hfit : fits ty v = true) (hl : k < fs.length)
    (hdg : decode cc pc = .ok (.putfield index, 3)) (kk : ∀ (H1 : Heap) (locs1 : List Loc), sx_R D cl tys ex zs K0 base ua s (hs.set a (.inr (.inl (ci, fs.set k v)))) H1 → (∀ q ∈ locs1, base ≤ q.base) → W p l e R s m args below meth c H1 locs1 cells slots Q (F0 m (pc + 3) ls (sx_upS ua st))) : W p l e R s m args below meth c H locs cells slots Q (F0 m pc ls (sx_upS ua (v :: .ref a :: st))) := by
  have hap := va_apart (own := own) hts hin ty0 hty hnm hK hc
  obtain ⟨r, h1, cell, q1, q2, q3, q4⟩ := hR.2.2.1 a _ he ha
  have hr : r = (C, T, N) := Option.some.inj (h1.symm.trans hc)
  subst hr
  obtain ⟨hS, hfc, kC, hkC, hkind⟩ := hK.1 ci _ hc
  obtain ⟨cf, kf, fi, f, hi, hsl⟩ := hS k hk
  have hlay := hts _ (hin _ (u_in_lay hk))
  unfold u_lay at hlay
  rw [if_neg (by rw [hfin]; decide)] at hlay
  have hst := (u_facts hfc hkC (u_lays hts hin hk) hi).1
  have h6 := u_store (v := sx_up ua v) hfc hkC hkind hlay hi hd (by rw [sx_narrow, hn]) (by rw [sx_fits]; exact hfit)
  refine W.putK (v := sx_up ua v) hexec hb (f := f) ⟨hown, hlink, ⟨_, _, _, hsame _ hi⟩, hst⟩ (by rw [q2]; exact h6) q1 q3 (by rw [hsl]; exact k2_hasslot (q4 k hk)) rfl rfl hdg fun H' e1 e2 e3 => ?_
  rw [hsl] at e1 ⊢
  refine kk H' _ (hR.set hA he ha ⟨_, hc, t_OB.to (V := updV (vp_V (fs.map (sx_up ua))) k (sx_up ua v)) ⟨_, e1, q2, q3, t_set q4 hap hk _⟩ (fun j _ => ?_)⟩ e2 e3) (sx_locs hL (sx_base hA ha))
  rw [sx_mapset]
  exact vp_updV_set (by rw [List.length_map]; exact hl) _ j
theorem sx_putF (hexec : p.tables.exec = Jvm.exec) (hb : c.code = cc) {own ref C : String} {T : u_T} {N ci index : Nat} {Ts : List Cond} (hts : ∀ w ∈ Ts, w.before args s = true) (hin : ∀ w ∈ u_ws C T N, w ∈ Ts) (ty0 : Nat → FieldType) (hty : ∀ k, k < N → parseFieldDescriptor (T k).2.2.1 = some (ty0 k)) (hnm : ∀ a, a < N → ∀ b, b < N → a ≠ b → (T a).2.1 ≠ (T b).2.1) (hown : s.vm.findClass own = some m.cls) (hK : va_K D cl tys s) (hA : sx_A K0 base ua) (hR : sx_R D cl tys ex zs K0 base ua s hs H) (hL : ∀ q ∈ locs, base ≤ q.base) {a : Nat} {fs : List Value} (he : hs[a]? = some (.inr (.inl (ci, fs)))) (ha : K0 ≤ a) (hc : cl[ci]? = some (C, T, N)) (k : Nat) (hk : k < N) (hlink : (Cond.fieldLink own index ref (T k).2.1 (T k).2.2.1).before args s = true) (hsame : ∀ x, s.fieldFound? (T k).1 (T k).2.1 (T k).2.2.1 = some x → s.fieldFound? ref (T k).2.1 (T k).2.2.1 = some x) (hfin : (T k).2.2.2 = true) (hin2 : meth.name = "<init>") (hdecl : (T k).1 = own) {ty : FieldType} {v : Value} (hd : parseFieldDescriptor (T k).2.2.1 = some ty) (hn : narrow ty v = v) (hfit : fits ty v = true) (hl : k < fs.length)
    (hdg : decode cc pc = .ok (.putfield index, 3)) (kk : ∀ (H1 : Heap) (locs1 : List Loc), sx_R D cl tys ex zs K0 base ua s (hs.set a (.inr (.inl (ci, fs.set k v)))) H1 → (∀ q ∈ locs1, base ≤ q.base) → W p l e R s m args below meth c H1 locs1 cells slots Q (F0 m (pc + 3) ls (sx_upS ua st))) : W p l e R s m args below meth c H locs cells slots Q (F0 m pc ls (sx_upS ua (v :: .ref a :: st))) := by
  have hap := va_apart (own := own) hts hin ty0 hty hnm hK hc
  obtain ⟨r, h1, cell, q1, q2, q3, q4⟩ := hR.2.2.1 a _ he ha
  have hr : r = (C, T, N) := Option.some.inj (h1.symm.trans hc)
  subst hr
  obtain ⟨hS, hfc, kC, hkC, hkind⟩ := hK.1 ci _ hc
  obtain ⟨cf, kf, fi, f, hi, hsl⟩ := hS k hk
  have hlay := hts _ (hin _ (u_in_lay hk))
  unfold u_lay at hlay
  rw [if_pos hfin] at hlay
  have hst := (u_facts hfc hkC (u_lays hts hin hk) hi).1
  have hcf : m.cls = cf := by
    obtain ⟨_, _, c', _, _, _, -, -, hf', -, -, -, hown2, -⟩ := Cond.laysFinal_spec hlay
    have e1 : c' = cf := by have := hi.symm.trans hf'; simp at this; exact this.1.symm
    rw [hdecl] at hown2
    rw [← e1]; exact Option.some.inj (hown.symm.trans hown2)
  have h6 := u_fits (v := sx_up ua v) hfc hkC hkind (Or.inr hlay) hi hd (by rw [sx_narrow, hn]) (by rw [sx_fits]; exact hfit)
  refine W.putFinK (v := sx_up ua v) hexec hb hown hlink (hsame _ hi) hst hcf hin2 (by rw [q2]; exact h6) q1 q3 (by rw [hsl]; exact k2_hasslot (q4 k hk)) rfl rfl hdg fun H' e1 e2 e3 => ?_
  rw [hsl] at e1 ⊢
  refine kk H' _ (hR.set hA he ha ⟨_, hc, t_OB.to (V := updV (vp_V (fs.map (sx_up ua))) k (sx_up ua v)) ⟨_, e1, q2, q3, t_set q4 hap hk _⟩ (fun j _ => ?_)⟩ e2 e3) (sx_locs hL (sx_base hA ha))
  rw [sx_mapset]
  exact vp_updV_set (by rw [List.length_map]; exact hl) _ j
theorem sx_new (hexec : p.tables.exec = Jvm.exec) (hb : c.code = cc) {own C : String} {T : u_T} {N ci index : Nat} {Ts : List Cond} (hts : ∀ w ∈ Ts, w.before args s = true) (hin : ∀ w ∈ u_ws C T N, w ∈ Ts) (ty : Nat → FieldType) (hty : ∀ k, k < N → parseFieldDescriptor (T k).2.2.1 = some (ty k)) (hown : s.vm.findClass own = some m.cls) (hcl : (Cond.classLink own index C).before args s = true) (hinst : (Cond.instantiable C N).before args s = true) (hini : (Cond.initialized C).before args s = true)
    (hK : va_K D cl tys s) (hA : sx_A K0 base ua) (hR : sx_R D cl tys ex zs K0 base ua s hs H) (hc : cl[ci]? = some (C, T, N)) {fs : List Value} (hfs : ∀ j, j < N → defaultValue (ty j) = vp_V fs j) (hfu : fs.map (sx_up ua) = fs) (hcells : cells + 1 ≤ R.cells) (hslots : slots + N ≤ R.slots) (hdg : decode cc pc = .ok (.new index, 3))
    (kk : ∀ (H1 : Heap), sx_R D cl tys ex zs K0 base ua s (hs ++ [.inr (.inl (ci, fs))]) H1 → W p l e R s m args below meth c H1 locs (cells + 1) (slots + N) Q (F0 m (pc + 3) ls (sx_upS ua (.ref hs.length :: st)))) : W p l e R s m args below meth c H locs cells slots Q (F0 m pc ls (sx_upS ua st)) := by
  have hKn := hK.1 ci _ hc
  refine W.newcK hexec hb hown hcl hinst hini rfl hdg hcells hslots hKn.2.1 rfl fun H1 kC hkC e1 z1 o1 => ?_
  refine W.eq (g2 := F0 m (pc + 3) ls (sx_upS ua (.ref hs.length :: st))) (by show F0 m (pc + 3) ls (.ref H.size :: sx_upS ua st) = F0 m (pc + 3) ls (.ref (ua hs.length) :: sx_upS ua st); rw [hR.new hA]) ?_
  exact kk H1 (hR.push hA z1 ⟨_, hc, (u_born ty hts hin hKn hkC e1 hty).to (fun j hj => by rw [hfu]; exact hfs j hj)⟩ o1)
end SXH
