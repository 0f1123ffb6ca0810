/-! THE ABSTRACT HEAP: arrays and static fields -/
section SXV
variable {p : Program} {l : Launch} {e : Env} {R : Room} {s : State} {m : MethodId} {args : Array Value} {below : List Frame} {meth : Method} {c : Code} {H : Heap} {locs : List Loc} {cells slots : Nat} {Q : State → Prop}
variable {cc : ByteArray} {pc nL : Nat} {ls : Array Slot} {st : List Value}
variable {D : va_G} {cl : List vw_C} {tys : List (ClassId × FieldType)} {ex : List String} {zs : List (String × String × String × Value)} {K0 base : Nat} {ua : Nat → Nat} {hs : sx_H}
theorem sx_gets (hexec : p.tables.exec = Jvm.exec) (hb : c.code = cc) {C n d own ref : String} {v : Value} {index : Nat} (hR : sx_R D cl tys ex zs K0 base ua s hs H) (hz : (C, n, d, v) ∈ zs) (hown : s.vm.findClass own = some m.cls) (hlink : (Cond.fieldLink own index ref n d).before args s = true) (hsame : ∀ x, s.fieldFound? C n d = some x → s.fieldFound? ref n d = some x) (hdg : decode cc pc = .ok (.getstatic index, 3))
    (kk : W p l e R s m args below meth c H locs cells slots Q (F0 m (pc + 3) ls (sx_upS ua (v :: st)))) : W p l e R s m args below meth c H locs cells slots Q (F0 m pc ls (sx_upS ua st)) := by
  obtain ⟨cf, kf, fi, f, a, cell, h1, h2, h3, h4, h5, h6, h7, h8⟩ := hR.2.2.2.2.1 _ hz
  exact W.gets hexec hb hown hlink (hsame _ h1) h2 h3 h4 h5 (fun e => by rw [e] at h6; cases h6) h7 rfl hdg kk
theorem sx_alen (hexec : p.tables.exec = Jvm.exec) (hb : c.code = cc) (hK : va_K D cl tys s) (hR : sx_R D cl tys ex zs K0 base ua s hs H) {a t : Nat} {x : vp_A} (he : hs[a]? = some (.inl (t, x))) {q : ClassId × FieldType} (ht : tys[t]? = some q) (hdg : decode cc pc = .ok (.arraylength, 1))
    (kk : W p l e R s m args below meth c H locs cells slots Q (F0 m (pc + 1) ls (sx_upS ua (.int (Int32.ofNat x.1) :: st)))) : W p l e R s m args below meth c H locs cells slots Q (F0 m pc ls (sx_upS ua (.ref a :: st))) := by
  obtain ⟨scr, h1, h2, h3, h4, h5⟩ := hR.rd hK he ht
  exact W.alen (n := Int32.ofNat x.1) hexec hb h1 h2 h4.2 rfl rfl hdg kk
theorem sx_iald (hexec : p.tables.exec = Jvm.exec) (hb : c.code = cc) (hK : va_K D cl tys s) (hR : sx_R D cl tys ex zs K0 base ua s hs H) {a t : Nat} {x : vp_A} (he : hs[a]? = some (.inl (t, x))) {q : ClassId × FieldType} (ht : tys[t]? = some q) (hq : q.2 = .int) {i : Int32} (hin : vp_in i x.1) (hdg : decode cc pc = .ok (.iaload, 1))
    (kk : W p l e R s m args below meth c H locs cells slots Q (F0 m (pc + 1) ls (sx_upS ua (sx_val x i.toNatClampNeg :: st)))) : W p l e R s m args below meth c H locs cells slots Q (F0 m pc ls (sx_upS ua (.int i :: .ref a :: st))) := by
  obtain ⟨scr, h1, h2, h3, h4, h5⟩ := hR.rd hK he ht
  rw [hq] at h2
  exact W.iald (v := sx_up ua (sx_val x i.toNatClampNeg)) hexec hb h1 h2 h3 (fun z => hin (z.imp id (Nat.le_trans h4.1))) (h5 _ (Nat.not_le.mp fun z => hin (Or.inr z))) rfl rfl hdg kk
theorem sx_bald (hexec : p.tables.exec = Jvm.exec) (hb : c.code = cc) (hK : va_K D cl tys s) (hR : sx_R D cl tys ex zs K0 base ua s hs H) {a t : Nat} {x : vp_A} (he : hs[a]? = some (.inl (t, x))) {q : ClassId × FieldType} (ht : tys[t]? = some q) (hq : q.2 = .byte) {i : Int32} (hin : vp_in i x.1) (hdg : decode cc pc = .ok (.baload, 1))
    (kk : W p l e R s m args below meth c H locs cells slots Q (F0 m (pc + 1) ls (sx_upS ua (sx_val x i.toNatClampNeg :: st)))) : W p l e R s m args below meth c H locs cells slots Q (F0 m pc ls (sx_upS ua (.int i :: .ref a :: st))) := by
  obtain ⟨scr, h1, h2, h3, h4, h5⟩ := hR.rd hK he ht
  rw [hq] at h2
  exact W.bald (v := sx_up ua (sx_val x i.toNatClampNeg)) hexec hb h1 h2 h3 (fun z => hin (z.imp id (Nat.le_trans h4.1))) (h5 _ (Nat.not_le.mp fun z => hin (Or.inr z))) rfl rfl hdg kk
theorem sx_zald (hexec : p.tables.exec = Jvm.exec) (hb : c.code = cc) (hK : va_K D cl tys s) (hR : sx_R D cl tys ex zs K0 base ua s hs H) {a t : Nat} {x : vp_A} (he : hs[a]? = some (.inl (t, x))) {q : ClassId × FieldType} (ht : tys[t]? = some q) (hq : q.2 = .boolean) {i : Int32} (hin : vp_in i x.1) (hdg : decode cc pc = .ok (.baload, 1))
    (kk : W p l e R s m args below meth c H locs cells slots Q (F0 m (pc + 1) ls (sx_upS ua (sx_val x i.toNatClampNeg :: st)))) : W p l e R s m args below meth c H locs cells slots Q (F0 m pc ls (sx_upS ua (.int i :: .ref a :: st))) := by
  obtain ⟨scr, h1, h2, h3, h4, h5⟩ := hR.rd hK he ht
  rw [hq] at h2
  exact W.zald (v := sx_up ua (sx_val x i.toNatClampNeg)) hexec hb h1 h2 h3 (fun z => hin (z.imp id (Nat.le_trans h4.1))) (h5 _ (Nat.not_le.mp fun z => hin (Or.inr z))) rfl rfl hdg kk
theorem sx_cald (hexec : p.tables.exec = Jvm.exec) (hb : c.code = cc) (hK : va_K D cl tys s) (hR : sx_R D cl tys ex zs K0 base ua s hs H) {a t : Nat} {x : vp_A} (he : hs[a]? = some (.inl (t, x))) {q : ClassId × FieldType} (ht : tys[t]? = some q) (hq : q.2 = .char) {i : Int32} (hin : vp_in i x.1) (hdg : decode cc pc = .ok (.caload, 1))
    (kk : W p l e R s m args below meth c H locs cells slots Q (F0 m (pc + 1) ls (sx_upS ua (sx_val x i.toNatClampNeg :: st)))) : W p l e R s m args below meth c H locs cells slots Q (F0 m pc ls (sx_upS ua (.int i :: .ref a :: st))) := by
  obtain ⟨scr, h1, h2, h3, h4, h5⟩ := hR.rd hK he ht
  rw [hq] at h2
  exact W.cald (v := sx_up ua (sx_val x i.toNatClampNeg)) hexec hb h1 h2 h3 (fun z => hin (z.imp id (Nat.le_trans h4.1))) (h5 _ (Nat.not_le.mp fun z => hin (Or.inr z))) rfl rfl hdg kk
theorem sx_lald (hexec : p.tables.exec = Jvm.exec) (hb : c.code = cc) (hK : va_K D cl tys s) (hR : sx_R D cl tys ex zs K0 base ua s hs H) {a t : Nat} {x : vp_A} (he : hs[a]? = some (.inl (t, x))) {q : ClassId × FieldType} (ht : tys[t]? = some q) (hq : q.2 = .long) {i : Int32} (hin : vp_in i x.1) (hdg : decode cc pc = .ok (.laload, 1))
    (kk : W p l e R s m args below meth c H locs cells slots Q (F0 m (pc + 1) ls (sx_upS ua (sx_val x i.toNatClampNeg :: st)))) : W p l e R s m args below meth c H locs cells slots Q (F0 m pc ls (sx_upS ua (.int i :: .ref a :: st))) := by
  obtain ⟨scr, h1, h2, h3, h4, h5⟩ := hR.rd hK he ht
  rw [hq] at h2
  exact W.lald (v := sx_up ua (sx_val x i.toNatClampNeg)) hexec hb h1 h2 h3 (fun z => hin (z.imp id (Nat.le_trans h4.1))) (h5 _ (Nat.not_le.mp fun z => hin (Or.inr z))) rfl rfl hdg kk
theorem sx_aald (hexec : p.tables.exec = Jvm.exec) (hb : c.code = cc) (hK : va_K D cl tys s) (hR : sx_R D cl tys ex zs K0 base ua s hs H) {a t : Nat} {x : vp_A} (he : hs[a]? = some (.inl (t, x))) {q : ClassId × FieldType} (ht : tys[t]? = some q) (hq : q.2.isReference = true) {i : Int32} (hin : vp_in i x.1) (hdg : decode cc pc = .ok (.aaload, 1))
    (kk : W p l e R s m args below meth c H locs cells slots Q (F0 m (pc + 1) ls (sx_upS ua (sx_val x i.toNatClampNeg :: st)))) : W p l e R s m args below meth c H locs cells slots Q (F0 m pc ls (sx_upS ua (.int i :: .ref a :: st))) := by
  obtain ⟨scr, h1, h2, h3, h4, h5⟩ := hR.rd hK he ht
  exact W.aald (v := sx_up ua (sx_val x i.toNatClampNeg)) hexec hb h1 h2 hq h3 (fun z => hin (z.imp id (Nat.le_trans h4.1))) (h5 _ (Nat.not_le.mp fun z => hin (Or.inr z))) rfl rfl hdg kk
theorem sx_iast (hexec : p.tables.exec = Jvm.exec) (hb : c.code = cc) (hK : va_K D cl tys s) (hA : sx_A K0 base ua) (hR : sx_R D cl tys ex zs K0 base ua s hs H) (hL : ∀ q ∈ locs, base ≤ q.base) {a t n : Nat} {f : Nat → Int32} (he : hs[a]? = some (.inl (t, (n, .inl f)))) (ha : K0 ≤ a) {q : ClassId × FieldType} (ht : tys[t]? = some q) (hq : q.2 = .int) {i : Int32} {x : Int32} (hin : vp_in i n) (hdg : decode cc pc = .ok (.iastore, 1))
    (kk : ∀ (H1 : Heap) (locs1 : List Loc), sx_R D cl tys ex zs K0 base ua s (hs.set a (.inl (t, (n, .inl (upd f i.toNatClampNeg x))))) H1 → (∀ q ∈ locs1, base ≤ q.base) → W p l e R s m args below meth c H1 locs1 cells slots Q (F0 m (pc + 1) ls (sx_upS ua st))) : W p l e R s m args below meth c H locs cells slots Q (F0 m pc ls (sx_upS ua (.int x :: .int i :: .ref a :: st))) := by
  obtain ⟨q', e1, e2⟩ := hR.2.2.1 a _ he ha
  have e0 : q' = q := Option.some.inj (e1.symm.trans ht)
  subst e0
  have e3 : H[ua a]? = some (arrV q'.1 n (fun j => .int (f j))) := e2
  have har : s.isArrayOf (arrV q'.1 n (fun j => .int (f j))) .int := by rw [← hq]; exact (hK.2 t _ ht).1 _ _
  refine W.iast hexec hb e3 har (fun z => by cases z) (by rw [arrV_size]; exact hin) rfl rfl hdg fun H1 g z oq => ?_
  refine kk H1 _ (hR.set hA he ha ⟨q', e1, ?_⟩ z oq) (sx_locs hL (sx_base hA ha))
  show H1[ua a]? = some (arrV q'.1 n (fun j => .int ((upd f i.toNatClampNeg x) j)))
  rw [g, arrV_store]
  congr 2
  funext y
  by_cases hy : y = i.toNatClampNeg
  · subst hy
    simp [updV, upd]
    try rfl
  · simp [updV, upd, hy]
theorem sx_bast (hexec : p.tables.exec = Jvm.exec) (hb : c.code = cc) (hK : va_K D cl tys s) (hA : sx_A K0 base ua) (hR : sx_R D cl tys ex zs K0 base ua s hs H) (hL : ∀ q ∈ locs, base ≤ q.base) {a t n : Nat} {f : Nat → Int32} (he : hs[a]? = some (.inl (t, (n, .inl f)))) (ha : K0 ≤ a) {q : ClassId × FieldType} (ht : tys[t]? = some q) (hq : q.2 = .byte) {i : Int32} {x : Int32} (hin : vp_in i n) (hdg : decode cc pc = .ok (.bastore, 1))
    (kk : ∀ (H1 : Heap) (locs1 : List Loc), sx_R D cl tys ex zs K0 base ua s (hs.set a (.inl (t, (n, .inl (upd f i.toNatClampNeg (vp_nar .byte x)))))) H1 → (∀ q ∈ locs1, base ≤ q.base) → W p l e R s m args below meth c H1 locs1 cells slots Q (F0 m (pc + 1) ls (sx_upS ua st))) : W p l e R s m args below meth c H locs cells slots Q (F0 m pc ls (sx_upS ua (.int x :: .int i :: .ref a :: st))) := by
  obtain ⟨q', e1, e2⟩ := hR.2.2.1 a _ he ha
  have e0 : q' = q := Option.some.inj (e1.symm.trans ht)
  subst e0
  have e3 : H[ua a]? = some (arrV q'.1 n (fun j => .int (f j))) := e2
  have har : s.isArrayOf (arrV q'.1 n (fun j => .int (f j))) .byte := by rw [← hq]; exact (hK.2 t _ ht).1 _ _
  refine W.bast hexec hb e3 har (fun z => by cases z) (by rw [arrV_size]; exact hin) rfl rfl hdg fun H1 g z oq => ?_
  refine kk H1 _ (hR.set hA he ha ⟨q', e1, ?_⟩ z oq) (sx_locs hL (sx_base hA ha))
  show H1[ua a]? = some (arrV q'.1 n (fun j => .int ((upd f i.toNatClampNeg (vp_nar .byte x)) j)))
  rw [g, arrV_store]
  congr 2
  funext y
  by_cases hy : y = i.toNatClampNeg
  · subst hy
    simp [updV, upd, vp_nar, narrow]
    try rfl
  · simp [updV, upd, vp_nar, narrow, hy]
theorem sx_zast (hexec : p.tables.exec = Jvm.exec) (hb : c.code = cc) (hK : va_K D cl tys s) (hA : sx_A K0 base ua) (hR : sx_R D cl tys ex zs K0 base ua s hs H) (hL : ∀ q ∈ locs, base ≤ q.base) {a t n : Nat} {f : Nat → Int32} (he : hs[a]? = some (.inl (t, (n, .inl f)))) (ha : K0 ≤ a) {q : ClassId × FieldType} (ht : tys[t]? = some q) (hq : q.2 = .boolean) {i : Int32} {x : Int32} (hin : vp_in i n) (hdg : decode cc pc = .ok (.bastore, 1))
    (kk : ∀ (H1 : Heap) (locs1 : List Loc), sx_R D cl tys ex zs K0 base ua s (hs.set a (.inl (t, (n, .inl (upd f i.toNatClampNeg (vp_nar .boolean x)))))) H1 → (∀ q ∈ locs1, base ≤ q.base) → W p l e R s m args below meth c H1 locs1 cells slots Q (F0 m (pc + 1) ls (sx_upS ua st))) : W p l e R s m args below meth c H locs cells slots Q (F0 m pc ls (sx_upS ua (.int x :: .int i :: .ref a :: st))) := by
  obtain ⟨q', e1, e2⟩ := hR.2.2.1 a _ he ha
  have e0 : q' = q := Option.some.inj (e1.symm.trans ht)
  subst e0
  have e3 : H[ua a]? = some (arrV q'.1 n (fun j => .int (f j))) := e2
  have har : s.isArrayOf (arrV q'.1 n (fun j => .int (f j))) .boolean := by rw [← hq]; exact (hK.2 t _ ht).1 _ _
  refine W.zast hexec hb e3 har (fun z => by cases z) (by rw [arrV_size]; exact hin) rfl rfl hdg fun H1 g z oq => ?_
  refine kk H1 _ (hR.set hA he ha ⟨q', e1, ?_⟩ z oq) (sx_locs hL (sx_base hA ha))
  show H1[ua a]? = some (arrV q'.1 n (fun j => .int ((upd f i.toNatClampNeg (vp_nar .boolean x)) j)))
  rw [g, arrV_store]
  congr 2
  funext y
  by_cases hy : y = i.toNatClampNeg
  · subst hy
    simp [updV, upd, vp_nar, narrow]
    try rfl
  · simp [updV, upd, vp_nar, narrow, hy]
theorem sx_cast (hexec : p.tables.exec = Jvm.exec) (hb : c.code = cc) (hK : va_K D cl tys s) (hA : sx_A K0 base ua) (hR : sx_R D cl tys ex zs K0 base ua s hs H) (hL : ∀ q ∈ locs, base ≤ q.base) {a t n : Nat} {f : Nat → Int32} (he : hs[a]? = some (.inl (t, (n, .inl f)))) (ha : K0 ≤ a) {q : ClassId × FieldType} (ht : tys[t]? = some q) (hq : q.2 = .char) {i : Int32} {x : Int32} (hin : vp_in i n) (hdg : decode cc pc = .ok (.castore, 1))
    (kk : ∀ (H1 : Heap) (locs1 : List Loc), sx_R D cl tys ex zs K0 base ua s (hs.set a (.inl (t, (n, .inl (upd f i.toNatClampNeg (vp_nar .char x)))))) H1 → (∀ q ∈ locs1, base ≤ q.base) → W p l e R s m args below meth c H1 locs1 cells slots Q (F0 m (pc + 1) ls (sx_upS ua st))) : W p l e R s m args below meth c H locs cells slots Q (F0 m pc ls (sx_upS ua (.int x :: .int i :: .ref a :: st))) := by
  obtain ⟨q', e1, e2⟩ := hR.2.2.1 a _ he ha
  have e0 : q' = q := Option.some.inj (e1.symm.trans ht)
  subst e0
  have e3 : H[ua a]? = some (arrV q'.1 n (fun j => .int (f j))) := e2
  have har : s.isArrayOf (arrV q'.1 n (fun j => .int (f j))) .char := by rw [← hq]; exact (hK.2 t _ ht).1 _ _
  refine W.cast hexec hb e3 har (fun z => by cases z) (by rw [arrV_size]; exact hin) rfl rfl hdg fun H1 g z oq => ?_
  refine kk H1 _ (hR.set hA he ha ⟨q', e1, ?_⟩ z oq) (sx_locs hL (sx_base hA ha))
  show H1[ua a]? = some (arrV q'.1 n (fun j => .int ((upd f i.toNatClampNeg (vp_nar .char x)) j)))
  rw [g, arrV_store]
  congr 2
  funext y
  by_cases hy : y = i.toNatClampNeg
  · subst hy
    simp [updV, upd, vp_nar, narrow]
    try rfl
  · simp [updV, upd, vp_nar, narrow, hy]
theorem sx_last (hexec : p.tables.exec = Jvm.exec) (hb : c.code = cc) (hK : va_K D cl tys s) (hA : sx_A K0 base ua) (hR : sx_R D cl tys ex zs K0 base ua s hs H) (hL : ∀ q ∈ locs, base ≤ q.base) {a t n : Nat} {f : Nat → Int64} (he : hs[a]? = some (.inl (t, (n, .inr (.inl f))))) (ha : K0 ≤ a) {q : ClassId × FieldType} (ht : tys[t]? = some q) (hq : q.2 = .long) {i : Int32} {x : Int64} (hin : vp_in i n) (hdg : decode cc pc = .ok (.lastore, 1))
    (kk : ∀ (H1 : Heap) (locs1 : List Loc), sx_R D cl tys ex zs K0 base ua s (hs.set a (.inl (t, (n, .inr (.inl (vp_updL f i.toNatClampNeg x)))))) H1 → (∀ q ∈ locs1, base ≤ q.base) → W p l e R s m args below meth c H1 locs1 cells slots Q (F0 m (pc + 1) ls (sx_upS ua st))) : W p l e R s m args below meth c H locs cells slots Q (F0 m pc ls (sx_upS ua (.long x :: .int i :: .ref a :: st))) := by
  obtain ⟨q', e1, e2⟩ := hR.2.2.1 a _ he ha
  have e0 : q' = q := Option.some.inj (e1.symm.trans ht)
  subst e0
  have e3 : H[ua a]? = some (arrV q'.1 n (fun j => .long (f j))) := e2
  have har : s.isArrayOf (arrV q'.1 n (fun j => .long (f j))) .long := by rw [← hq]; exact (hK.2 t _ ht).1 _ _
  refine W.last hexec hb e3 har (fun z => by cases z) (by rw [arrV_size]; exact hin) rfl rfl hdg fun H1 g z oq => ?_
  refine kk H1 _ (hR.set hA he ha ⟨q', e1, ?_⟩ z oq) (sx_locs hL (sx_base hA ha))
  show H1[ua a]? = some (arrV q'.1 n (fun j => .long ((vp_updL f i.toNatClampNeg x) j)))
  rw [g, arrV_store]
  congr 2
  funext y
  by_cases hy : y = i.toNatClampNeg
  · subst hy
    simp [updV, vp_updL]
    try rfl
  · simp [updV, vp_updL, hy]
theorem sx_aast (hexec : p.tables.exec = Jvm.exec) (hb : c.code = cc) (hK : va_K D cl tys s) (hA : sx_A K0 base ua) (hR : sx_R D cl tys ex zs K0 base ua s hs H) (hL : ∀ q ∈ locs, base ≤ q.base) {a t n : Nat} {f : Nat → Option Nat} (he : hs[a]? = some (.inl (t, (n, .inr (.inr (.inr (.inr f))))))) (ha : K0 ≤ a) {cA : ClassId} {E : String} (ht : tys[t]? = some (cA, .object E)) {v ci : Nat} {vs : List Value} {r : vw_C} (hv : hs[v]? = some (.inr (.inl (ci, vs)))) (hvK : K0 ≤ v) (hc : cl[ci]? = some r) (hca : r.1 = E ∨ va_Nw (.castable r.1 E) s) {i : Int32} (hin : vp_in i n) (hdg : decode cc pc = .ok (.aastore, 1))
    (kk : ∀ (H1 : Heap) (locs1 : List Loc), sx_R D cl tys ex zs K0 base ua s (hs.set a (.inl (t, (n, .inr (.inr (.inr (.inr (va_up f i.toNatClampNeg (some v))))))))) H1 → (∀ q ∈ locs1, base ≤ q.base) → W p l e R s m args below meth c H1 locs1 cells slots Q (F0 m (pc + 1) ls (sx_upS ua st))) : W p l e R s m args below meth c H locs cells slots Q (F0 m pc ls (sx_upS ua (.ref v :: .int i :: .ref a :: st))) := by
  obtain ⟨q', e1, e2⟩ := hR.2.2.1 a _ he ha
  have e0 : q' = (cA, .object E) := Option.some.inj (e1.symm.trans ht)
  subst e0
  have e3 : H[ua a]? = some (arrV cA n (fun j => va_rf ((f j).map ua))) := e2
  have hlt : i.toNatClampNeg < n := Nat.not_le.mp fun q => hin (Or.inr q)
  have h0 : ¬ i < 0 := fun q => hin (Or.inl q)
  obtain ⟨r', hr', cellV, g1, g2, g3, -⟩ := hR.2.2.1 v _ hv hvK
  have hcls := (hK.1 ci r hc).2
  obtain ⟨kA, comp, k1, k2, k3, -⟩ := (hK.2 t _ ht).2
  obtain ⟨kE, hkE, -⟩ := Vm.findClass_spec k3
  have hasg : s.vm.assignable (D.1 ci) comp = true := by
    rcases hca with hca | hca
    · have hcomp : comp = D.1 ci := by rw [← hca] at k3; exact Option.some.inj (k3.symm.trans hcls.1)
      rw [hcomp]
      exact va_assign hcls
    · obtain ⟨c0, t1, f1, f2, f3⟩ := Cond.castable_spec (va_Nw.use (A := args) rfl hca)
      cases hcls.1.symm.trans f1
      cases k3.symm.trans f2
      exact f3
  obtain ⟨kC, hkC, -⟩ := hcls.2
  refine W.aast hexec hb e3 (fun q h => by cases h) (fun h => by cases h) k1 k2 rfl hkE ⟨h0, by rw [arrV_size]; exact hlt⟩ g1 (fun q h => by rw [g3] at h; cases h) (by rw [g2]; exact hkC) (by rw [g2]; exact hasg) rfl rfl hdg fun H1 g z oq => ?_
  refine kk H1 _ (hR.set hA he ha ⟨(cA, .object E), ht, ?_⟩ z oq) (sx_locs hL (sx_base hA ha))
  show H1[ua a]? = some (arrV cA n (fun j => va_rf ((va_up f i.toNatClampNeg (some v) j).map ua)))
  rw [g, arrV_store]
  congr 2
  funext y
  by_cases hy : y = i.toNatClampNeg
  · subst hy
    simp [updV, va_up, va_rf]
  · simp [updV, va_up, hy]
theorem sx_aastN (hexec : p.tables.exec = Jvm.exec) (hb : c.code = cc) (hK : va_K D cl tys s) (hA : sx_A K0 base ua) (hR : sx_R D cl tys ex zs K0 base ua s hs H) (hL : ∀ q ∈ locs, base ≤ q.base) {a t n : Nat} {f : Nat → Option Nat} (he : hs[a]? = some (.inl (t, (n, .inr (.inr (.inr (.inr f))))))) (ha : K0 ≤ a) {cA : ClassId} {E : String} (ht : tys[t]? = some (cA, .object E)) {i : Int32} (hin : vp_in i n) (hdg : decode cc pc = .ok (.aastore, 1))
    (kk : ∀ (H1 : Heap) (locs1 : List Loc), sx_R D cl tys ex zs K0 base ua s (hs.set a (.inl (t, (n, .inr (.inr (.inr (.inr (va_up f i.toNatClampNeg none)))))))) H1 → (∀ q ∈ locs1, base ≤ q.base) → W p l e R s m args below meth c H1 locs1 cells slots Q (F0 m (pc + 1) ls (sx_upS ua st))) : W p l e R s m args below meth c H locs cells slots Q (F0 m pc ls (sx_upS ua (.null :: .int i :: .ref a :: st))) := by
  obtain ⟨q', e1, e2⟩ := hR.2.2.1 a _ he ha
  have e0 : q' = (cA, .object E) := Option.some.inj (e1.symm.trans ht)
  subst e0
  have e3 : H[ua a]? = some (arrV cA n (fun j => va_rf ((f j).map ua))) := e2
  refine va_WaastN (C := E) hexec hb e3 ((hK.2 t _ ht).1 _ _) (fun h => by cases h) (by rw [arrV_size]; exact hin) rfl rfl hdg fun H1 g z oq => ?_
  refine kk H1 _ (hR.set hA he ha ⟨(cA, .object E), ht, ?_⟩ z oq) (sx_locs hL (sx_base hA ha))
  show H1[ua a]? = some (arrV cA n (fun j => va_rf ((va_up f i.toNatClampNeg none j).map ua)))
  rw [g, arrV_store]
  congr 2
  funext y
  by_cases hy : y = i.toNatClampNeg
  · subst hy
    simp [updV, va_up, va_rf]
  · simp [updV, va_up, hy]
theorem sx_newa (hexec : p.tables.exec = Jvm.exec) (hb : c.code = cc) {atype : ArrayType} (harr : (Cond.arrayClass (newarray.typeOf atype)).before args s = true) (hK : va_K D cl tys s) (hA : sx_A K0 base ua) (hR : sx_R D cl tys ex zs K0 base ua s hs H) {t : Nat} {cT : ClassId} (ht : tys[t]? = some (cT, newarray.typeOf atype))
    {n : Int32} {N : Nat} {x : vp_A} (hx : ∀ cA : ClassId, vp_cell cA (sx_upA ua x) = arrV cA N (fun _ => defaultValue (newarray.typeOf atype))) (hn : ¬ n < 0) (hN : n.toNatClampNeg = N) (hbytes : N * componentBytes (newarray.typeOf atype) ≤ 536870912) (hcells : cells + 1 ≤ R.cells) (hslots : slots + N ≤ R.slots) (hdg : decode cc pc = .ok (.newarray atype, 2))
    (kk : ∀ (H1 : Heap), sx_R D cl tys ex zs K0 base ua s (hs ++ [.inl (t, x)]) H1 → W p l e R s m args below meth c H1 locs (cells + 1) (slots + N) Q (F0 m (pc + 2) ls (sx_upS ua (.ref hs.length :: st)))) : W p l e R s m args below meth c H locs cells slots Q (F0 m pc ls (sx_upS ua (.int n :: st))) := by
  refine va_newaK hexec hb harr rfl hdg rfl hn hN hbytes hcells hslots rfl fun H1 cA e1 z1 o1 hAr hNm => ?_
  have hca : cA = cT := by
    have h1 := (hK.2 t _ ht).2
    cases atype <;> exact Option.some.inj (hNm.symm.trans h1)
  subst hca
  refine W.eq (g2 := F0 m (pc + 2) ls (sx_upS ua (.ref hs.length :: st))) (by show F0 m (pc + 2) ls (.ref H.size :: sx_upS ua st) = F0 m (pc + 2) ls (.ref (ua hs.length) :: sx_upS ua st); rw [hR.new hA]) ?_
  exact kk H1 (hR.push hA z1 ⟨_, ht, by rw [hx]; exact e1⟩ o1)
theorem sx_newq (hexec : p.tables.exec = Jvm.exec) (hb : c.code = cc) {own C : String} {index : Nat} (hown : s.vm.findClass own = some m.cls) (hclink : (Cond.classLink own index C).before args s = true) (hover : (Cond.arrayOver (.object C)).before args s = true) (hK : va_K D cl tys s) (hA : sx_A K0 base ua) (hR : sx_R D cl tys ex zs K0 base ua s hs H) {t : Nat} {cT : ClassId} (ht : tys[t]? = some (cT, .object C))
    {n : Int32} {N : Nat} (hn : ¬ n < 0) (hN : n.toNatClampNeg = N) (hbytes : N * 4 ≤ 536870912) (hcells : cells + 1 ≤ R.cells) (hslots : slots + N ≤ R.slots) (hdg : decode cc pc = .ok (.anewarray index, 3))
    (kk : ∀ (H1 : Heap), sx_R D cl tys ex zs K0 base ua s (hs ++ [.inl (t, (N, .inr (.inr (.inr (.inr (fun _ => none))))))]) H1 → W p l e R s m args below meth c H1 locs (cells + 1) (slots + N) Q (F0 m (pc + 3) ls (sx_upS ua (.ref hs.length :: st)))) : W p l e R s m args below meth c H locs cells slots Q (F0 m pc ls (sx_upS ua (.int n :: st))) := by
  subst hN
  refine W.anew hexec hb hown hclink hover rfl hdg rfl hn hbytes hcells hslots fun cA kA comp f1 f2 f3 f4 => ?_
  generalize hH1 : H.push ({ cls := cA, slots := Array.replicate n.toNatClampNeg .null, vm := .none } : Cell) = H1
  have z1 : H1.size = H.size + 1 := by rw [← hH1, Array.size_push]
  have e1 : H1[H.size]? = some (arrV cA n.toNatClampNeg (fun _ => .null)) := by rw [← hH1, Array.getElem?_push_size, ← arrV_new]
  have o1 : ∀ q : Nat, q < H.size → H1[q]? = H[q]? := fun q hq => by rw [← hH1, Array.getElem?_push, if_neg (Nat.ne_of_lt hq)]
  have hca : cA = cT := by
    obtain ⟨kA', comp', k1, k2, k3, k4⟩ := (hK.2 t _ ht).2
    exact Option.some.inj (f1.symm.trans k4)
  subst hca
  refine W.eq (g2 := F0 m (pc + 3) ls (sx_upS ua (.ref hs.length :: st))) (by show F0 m (pc + 3) ls (.ref H.size :: sx_upS ua st) = F0 m (pc + 3) ls (.ref (ua hs.length) :: sx_upS ua st); rw [hR.new hA]) ?_
  exact kk H1 (hR.push hA z1 ⟨_, ht, e1⟩ o1)
end SXV
