/-! THE ABSTRACT MACHINE: its instructions on the heap are sound -/
section SXK
variable (Ts xw : List Cond) (cl : List vw_C) (ft : Nat → Nat → FieldType) (df : Nat → List Value) (tf : Nat → FieldType) (nt : Nat) (zs : List (String × String × String × Value)) (ks : Nat → Value)
def sx_okC (ci : Nat) (C : String) (T : u_T) (N : Nat) : Prop := cl[ci]? = some (C, T, N) ∧ (∀ w ∈ u_ws C T N, w ∈ Ts) ∧ (∀ k, k < N → parseFieldDescriptor (T k).2.2.1 = some (ft ci k)) ∧ (∀ a, a < N → ∀ b, b < N → a ≠ b → (T a).2.1 ≠ (T b).2.1)
/-- what an instruction's numbers must be -/
def sx_okI (own : String) (isI : Bool) (i : Instr) (len a b : Nat) : Prop := match i with
  | .getfield idx => len = 3 ∧ ∃ (C : String) (T : u_T) (N : Nat), sx_okC Ts cl ft a C T N ∧ b < N ∧ ∃ ref : String, Cond.fieldLink own idx ref (T b).2.1 (T b).2.2.1 ∈ Ts ∧ (ref = (T b).1 ∨ Cond.sameField ref (T b).1 (T b).2.1 (T b).2.2.1 ∈ Ts)
  | .putfield idx => len = 3 ∧ ∃ (C : String) (T : u_T) (N : Nat), sx_okC Ts cl ft a C T N ∧ b < N ∧ (∃ ref : String, Cond.fieldLink own idx ref (T b).2.1 (T b).2.2.1 ∈ Ts ∧ (ref = (T b).1 ∨ Cond.sameField ref (T b).1 (T b).2.1 (T b).2.2.1 ∈ Ts)) ∧ ((T b).2.2.2 = false ∨ ((T b).2.2.2 = true ∧ isI = true ∧ (T b).1 = own))
  | .new idx => len = 3 ∧ (b = 0 → ∃ (C : String) (T : u_T) (N : Nat), sx_okC Ts cl ft a C T N ∧ Cond.classLink own idx C ∈ Ts ∧ Cond.instantiable C N ∈ Ts ∧ Cond.initialized C ∈ Ts ∧ (df a).length = N ∧ (∀ j, j < N → defaultValue (ft a j) = vp_V (df a) j) ∧ ∀ ua, (df a).map (sx_up ua) = df a)
  | .newarray t => len = 2 ∧ Cond.arrayClass (newarray.typeOf t) ∈ Ts ∧ tf a = newarray.typeOf t ∧ a < nt
  | .anewarray idx => len = 3 ∧ ∃ C : String, tf a = .object C ∧ a < nt ∧ Cond.classLink own idx C ∈ Ts ∧ Cond.arrayOver (.object C) ∈ xw
  | .arraylength => len = 1
  | .iaload => len = 1
  | .baload => len = 1
  | .caload => len = 1
  | .laload => len = 1
  | .aaload => len = 1
  | .iastore => len = 1
  | .bastore => len = 1
  | .castore => len = 1
  | .lastore => len = 1
  | .aastore => len = 1
  | .getstatic idx => len = 3 ∧ ∀ z, zs[a]? = some z → Cond.fieldLink own idx z.1 z.2.1 z.2.2.1 ∈ Ts
  | .ldc idx => len = 2 ∧ (b = 0 → ∃ v : Int32, ks a = .int v ∧ Cond.constant own idx v ∈ Ts)
  | .checkcast idx => len = 3 ∧ ∀ q : vw_C, cl[a]? = some q → Cond.classLink own idx q.1 ∈ Ts
  | .ldc_w idx => len = 3 ∧ ∃ v : Int32, ks a = .int v ∧ Cond.constant own idx v ∈ Ts
  | .ldc2_w idx => len = 3 ∧ ∃ v : Int64, ks a = .long v ∧ Cond.constantLong own idx v ∈ Ts
  | _ => True
end SXK
theorem sx_R.kd {D : va_G} {cl : List vw_C} {tys : List (ClassId × FieldType)} {ex : List String} {zs : List (String × String × String × Value)} {K0 base : Nat} {ua : Nat → Nat} {U : State} {hs : sx_H} {H : Heap} (hR : sx_R D cl tys ex zs K0 base ua U hs H) {a t : Nat} {x : vp_A} (he : hs[a]? = some (.inl (t, x))) : ∃ q, tys[t]? = some q := by
  by_cases ha : K0 ≤ a
  · obtain ⟨q, h1, -⟩ := hR.2.2.1 a _ he ha
    exact ⟨q, h1⟩
  · obtain ⟨q, h1, -⟩ := (hR.2.2.2.1 a _ he (by omega)).2
    exact ⟨q, h1⟩
section SXL
variable {p : Program} {l : Launch} {e : Env} {R : Room} {s : State} {m : MethodId} {args : Array Value} {below : List Frame} {meth : Method} {c : Code} {H : Heap} {locs : List Loc} {cells slots : Nat} {Q : State → Prop}
variable {cc : ByteArray} {pc nL : Nat} {ls : Array Slot} {lv : List (Nat × Value)} {st : List Value} {F : sx_F}
variable {D : va_G} {cl : List vw_C} {tys : List (ClassId × FieldType)} {ex : List String} {zs : List (String × String × String × Value)} {K0 base : Nat} {ua : Nat → Nat} {hs hs1 : sx_H} {dc ds : Nat}
variable {Ts xw : List Cond} {ft : Nat → Nat → FieldType} {df : Nat → List Value} {tf : Nat → FieldType} {nt : Nat} {cst : Nat → Nat → Bool} {ks : Nat → Value}
set_option maxHeartbeats 4000000 in
theorem sx_hs_ok (hexec : p.tables.exec = Jvm.exec) (hb : c.code = cc) (hA : sx_A K0 base ua) {own : String} (hown : s.vm.findClass own = some m.cls) (hts : ∀ w ∈ Ts, w.before args s = true) (hxw : ∀ w ∈ xw, va_Nw w s) (hK : va_K D cl tys s)
    (htf : ∀ t q, tys[t]? = some q → q.2 = tf t) (hnt : ∀ t, t < nt → ∃ cT, tys[t]? = some (cT, tf t)) (hc0 : ∀ t, cst 0 t = true → ∃ E, tf t = .object E) (hc1 : ∀ ci t, cst (ci + 1) t = true → ∃ (r : vw_C) (E : String), cl[ci]? = some r ∧ tf t = .object E ∧ (r.1 = E ∨ Cond.castable r.1 E ∈ xw))
    {isI : Bool} (hini : isI = true → meth.name = "<init>") {i : Instr} {len a b : Nat} (hd : decode cc pc = .ok (i, len)) (ho : sx_okI Ts xw cl ft df tf nt zs ks own isI i len a b) (hl : lv_has ls nL (sx_upL ua lv)) (hR : sx_R D cl tys ex zs K0 base ua s hs H) (hL : ∀ q ∈ locs, base ≤ q.base)
    (h : sx_hs K0 ft df tf cst zs ks nL i len a b pc lv st hs = some (F, hs1, dc, ds)) (hcc : cells + dc ≤ R.cells) (hss : slots + ds ≤ R.slots)
    (kk : ∀ (ls' : Array Slot) (H1 : Heap) (locs1 : List Loc), lv_has ls' nL (sx_upL ua F.2.1) → sx_R D cl tys ex zs K0 base ua s hs1 H1 → (∀ q ∈ locs1, base ≤ q.base) → W p l e R s m args below meth c H1 locs1 (cells + dc) (slots + ds) Q (F0 m F.1 ls' (sx_upS ua F.2.2))) :
    W p l e R s m args below meth c H locs cells slots Q (F0 m pc ls (sx_upS ua st)) := by
  cases i with
  | getfield idx =>
    obtain ⟨rfl, C, T, N, ⟨hC, hin, hty, hnm⟩, hk, ref, hlk, hsm⟩ := ho
    obtain ⟨⟨x, r⟩, h1, h⟩ := Option.bind_eq_some_iff.mp h
    obtain ⟨⟨ci, fs⟩, h2, h⟩ := Option.bind_eq_some_iff.mp h
    by_cases hcnd : ci = a ∧ K0 ≤ x
    · rw [if_pos hcnd] at h
      obtain ⟨v, h3, h⟩ := Option.bind_eq_some_iff.mp h
      cases h
      obtain ⟨rfl, hx⟩ := hcnd
      rw [sx_popR_inv h1]
      exact sx_get hexec hb hts hin hown hK hR (sx_obj_inv h2) hx hC b hk (hts _ hlk) (fun x z => hsm.elim (fun e => by rw [e]; exact z) (fun e => u_same (hts _ e) x z)) h3 hd (kk ls H locs hl hR hL)
    · rw [if_neg hcnd] at h
      cases h
  | putfield idx =>
    obtain ⟨rfl, C, T, N, ⟨hC, hin, hty, hnm⟩, hk, ⟨ref, hlk, hsm⟩, hfin⟩ := ho
    obtain ⟨⟨v, r0⟩, h0, h⟩ := Option.bind_eq_some_iff.mp h
    obtain ⟨⟨x, r⟩, h1, h⟩ := Option.bind_eq_some_iff.mp h
    obtain ⟨⟨ci, fs⟩, h2, h⟩ := Option.bind_eq_some_iff.mp h
    by_cases hcnd : ci = a ∧ K0 ≤ x ∧ b < fs.length ∧ sx_fit (ft a b) v = true
    · rw [if_pos hcnd] at h
      cases h
      obtain ⟨rfl, hx, hbl, hfit⟩ := hcnd
      have e1 := sx_pop_inv h0
      have e2 := sx_popR_inv h1
      dsimp only at e1 e2
      rw [e1, e2]
      obtain ⟨f1, f2⟩ := sx_fit_ok hfit
      rcases hfin with hfin | ⟨hfin, hi, hdecl⟩
      · exact sx_put hexec hb hts hin _ hty hnm hown hK hA hR hL (sx_obj_inv h2) hx hC b hk (hts _ hlk) (fun x z => hsm.elim (fun e => by rw [e]; exact z) (fun e => u_same (hts _ e) x z)) hfin (hty b hk) f1 f2 hbl hd (fun H1 locs1 hR1 hL1 => kk ls H1 locs1 hl hR1 hL1)
      · exact sx_putF hexec hb hts hin _ hty hnm hown hK hA hR hL (sx_obj_inv h2) hx hC b hk (hts _ hlk) (fun x z => hsm.elim (fun e => by rw [e]; exact z) (fun e => u_same (hts _ e) x z)) hfin (hini hi) hdecl (hty b hk) f1 f2 hbl hd (fun H1 locs1 hR1 hL1 => kk ls H1 locs1 hl hR1 hL1)
    · rw [if_neg hcnd] at h
      cases h
  | new idx =>
    obtain ⟨rfl, ho⟩ := ho
    have h : sx_onew df a b pc lv st hs = some (F, hs1, dc, ds) := h
    unfold sx_onew at h
    by_cases hb0 : b = 0
    · rw [if_pos hb0] at h
      cases h
      obtain ⟨C, T, N, ⟨hC, hin, hty, hnm⟩, hk1, hk2, hk3, hlen, hdf, hup⟩ := ho hb0
      rw [hlen] at hss kk
      exact sx_new hexec hb hts hin _ hty hown (hts _ hk1) (hts _ hk2) (hts _ hk3) hK hA hR hC hdf (hup ua) hcc hss hd (fun H1 hR1 => kk ls H1 locs hl hR1 hL)
    · rw [if_neg hb0] at h
      cases h
  | newarray t =>
    obtain ⟨rfl, hk1, htfa, hnta⟩ := ho
    obtain ⟨⟨n, r⟩, h1, h⟩ := Option.bind_eq_some_iff.mp h
    by_cases hcnd : 0 ≤ n ∧ n.toNatClampNeg ≤ 100000
    · rw [if_pos hcnd] at h
      obtain ⟨x, h3, h⟩ := Option.bind_eq_some_iff.mp h
      cases h
      rw [sx_popI_inv h1]
      obtain ⟨cT, hcT⟩ := hnt a hnta
      rw [htfa] at hcT
      have hz := sx_zero_ok h3 ua
      exact sx_newa hexec hb (hts _ hk1) hK hA hR hcT (fun cA => (hz cA).1) (k2_nlt hcnd.1) rfl (Nat.le_trans (hz default).2 (by have h5 : n.toNatClampNeg ≤ 100000 := hcnd.2; (try dsimp only); omega)) hcc hss hd (fun H1 hR1 => kk ls H1 locs hl hR1 hL)
    · rw [if_neg hcnd] at h
      cases h
  | anewarray idx =>
    obtain ⟨rfl, C, htfa, hnta, hk1, hk2⟩ := ho
    obtain ⟨⟨n, r⟩, h1, h⟩ := Option.bind_eq_some_iff.mp h
    by_cases hcnd : 0 ≤ n ∧ n.toNatClampNeg ≤ 100000
    · rw [if_pos hcnd] at h
      cases h
      rw [sx_popI_inv h1]
      obtain ⟨cT, hcT⟩ := hnt a hnta
      rw [htfa] at hcT
      exact sx_newq hexec hb hown (hts _ hk1) (va_AO.use (hxw _ hk2)) hK hA hR hcT (k2_nlt hcnd.1) rfl (by have h5 : n.toNatClampNeg ≤ 100000 := hcnd.2; (try dsimp only); omega) hcc hss hd (fun H1 hR1 => kk ls H1 locs hl hR1 hL)
    · rw [if_neg hcnd] at h
      cases h
  | arraylength =>
    have ho : len = 1 := ho
    subst ho
    obtain ⟨⟨x, r⟩, h1, h⟩ := Option.bind_eq_some_iff.mp h
    obtain ⟨⟨t, y⟩, h2, h⟩ := Option.bind_eq_some_iff.mp h
    cases h
    rw [sx_popR_inv h1]
    obtain ⟨q, hq⟩ := sx_R.kd hR (sx_arr_inv h2)
    exact sx_alen hexec hb hK hR (sx_arr_inv h2) hq hd (kk ls H locs hl hR hL)
  | iaload =>
    have ho : len = 1 := ho
    subst ho
    obtain ⟨⟨j, r0⟩, h0, h⟩ := Option.bind_eq_some_iff.mp h
    obtain ⟨⟨x, r⟩, h1, h⟩ := Option.bind_eq_some_iff.mp h
    obtain ⟨⟨t, y⟩, h2, h⟩ := Option.bind_eq_some_iff.mp h
    by_cases hcnd : (tf t == .int) = true ∧ ¬ (j < 0 ∨ y.1 ≤ j.toNatClampNeg)
    · rw [if_pos hcnd] at h
      cases h
      have e1 := sx_popI_inv h0
      have e2 := sx_popR_inv h1
      dsimp only at e1 e2
      rw [e1, e2]
      obtain ⟨q, hq⟩ := sx_R.kd hR (sx_arr_inv h2)
      exact sx_iald hexec hb hK hR (sx_arr_inv h2) hq (by rw [htf t q hq]; exact eq_of_beq hcnd.1) hcnd.2 hd (kk ls H locs hl hR hL)
    · rw [if_neg hcnd] at h
      cases h
  | baload =>
    have ho : len = 1 := ho
    subst ho
    simp only [sx_hs] at h
    by_cases hb0 : b = 0
    · rw [if_pos hb0] at h
      obtain ⟨⟨j, r0⟩, h0, h⟩ := Option.bind_eq_some_iff.mp h
      obtain ⟨⟨x, r⟩, h1, h⟩ := Option.bind_eq_some_iff.mp h
      obtain ⟨⟨t, y⟩, h2, h⟩ := Option.bind_eq_some_iff.mp h
      by_cases hcnd : (tf t == .byte) = true ∧ ¬ (j < 0 ∨ y.1 ≤ j.toNatClampNeg)
      · rw [if_pos hcnd] at h
        cases h
        have e1 := sx_popI_inv h0
        have e2 := sx_popR_inv h1
        dsimp only at e1 e2
        rw [e1, e2]
        obtain ⟨q, hq⟩ := sx_R.kd hR (sx_arr_inv h2)
        exact sx_bald hexec hb hK hR (sx_arr_inv h2) hq (by rw [htf t q hq]; exact eq_of_beq hcnd.1) hcnd.2 hd (kk ls H locs hl hR hL)
      · rw [if_neg hcnd] at h
        cases h
    · rw [if_neg hb0] at h
      obtain ⟨⟨j, r0⟩, h0, h⟩ := Option.bind_eq_some_iff.mp h
      obtain ⟨⟨x, r⟩, h1, h⟩ := Option.bind_eq_some_iff.mp h
      obtain ⟨⟨t, y⟩, h2, h⟩ := Option.bind_eq_some_iff.mp h
      by_cases hcnd : (tf t == .boolean) = true ∧ ¬ (j < 0 ∨ y.1 ≤ j.toNatClampNeg)
      · rw [if_pos hcnd] at h
        cases h
        have e1 := sx_popI_inv h0
        have e2 := sx_popR_inv h1
        dsimp only at e1 e2
        rw [e1, e2]
        obtain ⟨q, hq⟩ := sx_R.kd hR (sx_arr_inv h2)
        exact sx_zald hexec hb hK hR (sx_arr_inv h2) hq (by rw [htf t q hq]; exact eq_of_beq hcnd.1) hcnd.2 hd (kk ls H locs hl hR hL)
      · rw [if_neg hcnd] at h
        cases h
  | caload =>
    have ho : len = 1 := ho
    subst ho
    obtain ⟨⟨j, r0⟩, h0, h⟩ := Option.bind_eq_some_iff.mp h
    obtain ⟨⟨x, r⟩, h1, h⟩ := Option.bind_eq_some_iff.mp h
    obtain ⟨⟨t, y⟩, h2, h⟩ := Option.bind_eq_some_iff.mp h
    by_cases hcnd : (tf t == .char) = true ∧ ¬ (j < 0 ∨ y.1 ≤ j.toNatClampNeg)
    · rw [if_pos hcnd] at h
      cases h
      have e1 := sx_popI_inv h0
      have e2 := sx_popR_inv h1
      dsimp only at e1 e2
      rw [e1, e2]
      obtain ⟨q, hq⟩ := sx_R.kd hR (sx_arr_inv h2)
      exact sx_cald hexec hb hK hR (sx_arr_inv h2) hq (by rw [htf t q hq]; exact eq_of_beq hcnd.1) hcnd.2 hd (kk ls H locs hl hR hL)
    · rw [if_neg hcnd] at h
      cases h
  | laload =>
    have ho : len = 1 := ho
    subst ho
    obtain ⟨⟨j, r0⟩, h0, h⟩ := Option.bind_eq_some_iff.mp h
    obtain ⟨⟨x, r⟩, h1, h⟩ := Option.bind_eq_some_iff.mp h
    obtain ⟨⟨t, y⟩, h2, h⟩ := Option.bind_eq_some_iff.mp h
    by_cases hcnd : (tf t == .long) = true ∧ ¬ (j < 0 ∨ y.1 ≤ j.toNatClampNeg)
    · rw [if_pos hcnd] at h
      cases h
      have e1 := sx_popI_inv h0
      have e2 := sx_popR_inv h1
      dsimp only at e1 e2
      rw [e1, e2]
      obtain ⟨q, hq⟩ := sx_R.kd hR (sx_arr_inv h2)
      exact sx_lald hexec hb hK hR (sx_arr_inv h2) hq (by rw [htf t q hq]; exact eq_of_beq hcnd.1) hcnd.2 hd (kk ls H locs hl hR hL)
    · rw [if_neg hcnd] at h
      cases h
  | aaload =>
    have ho : len = 1 := ho
    subst ho
    obtain ⟨⟨j, r0⟩, h0, h⟩ := Option.bind_eq_some_iff.mp h
    obtain ⟨⟨x, r⟩, h1, h⟩ := Option.bind_eq_some_iff.mp h
    obtain ⟨⟨t, y⟩, h2, h⟩ := Option.bind_eq_some_iff.mp h
    by_cases hcnd : (tf t).isReference = true ∧ ¬ (j < 0 ∨ y.1 ≤ j.toNatClampNeg)
    · rw [if_pos hcnd] at h
      cases h
      have e1 := sx_popI_inv h0
      have e2 := sx_popR_inv h1
      dsimp only at e1 e2
      rw [e1, e2]
      obtain ⟨q, hq⟩ := sx_R.kd hR (sx_arr_inv h2)
      exact sx_aald hexec hb hK hR (sx_arr_inv h2) hq (by rw [htf t q hq]; exact hcnd.1) hcnd.2 hd (kk ls H locs hl hR hL)
    · rw [if_neg hcnd] at h
      cases h
  | iastore =>
    have ho : len = 1 := ho
    subst ho
    obtain ⟨⟨v, r1⟩, h9, h⟩ := Option.bind_eq_some_iff.mp h
    obtain ⟨⟨j, r0⟩, h0, h⟩ := Option.bind_eq_some_iff.mp h
    obtain ⟨⟨x, r⟩, h1, h⟩ := Option.bind_eq_some_iff.mp h
    obtain ⟨⟨t, y⟩, h2, h⟩ := Option.bind_eq_some_iff.mp h
    obtain ⟨f, h3, h⟩ := Option.bind_eq_some_iff.mp h
    by_cases hcnd : tf t = .int ∧ K0 ≤ x ∧ ¬ (j < 0 ∨ y.1 ≤ j.toNatClampNeg)
    · rw [if_pos hcnd] at h
      cases h
      have e0 := sx_popI_inv h9
      have e1 := sx_popI_inv h0
      have e2 := sx_popR_inv h1
      dsimp only at e0 e1 e2
      rw [e0, e1, e2]
      have he := sx_arr_inv h2
      obtain ⟨n, y⟩ := y
      have hy := sx_ai_inv h3
      dsimp only at hy
      rw [hy] at he
      obtain ⟨q, hq⟩ := sx_R.kd hR he
      exact sx_iast hexec hb hK hA hR hL he hcnd.2.1 hq (by rw [htf t q hq]; exact hcnd.1) hcnd.2.2 hd (fun H1 locs1 hR1 hL1 => kk ls H1 locs1 hl hR1 hL1)
    · rw [if_neg hcnd] at h
      cases h
  | bastore =>
    have ho : len = 1 := ho
    subst ho
    simp only [sx_hs] at h
    by_cases hb0 : b = 0
    · rw [if_pos hb0] at h
      obtain ⟨⟨v, r1⟩, h9, h⟩ := Option.bind_eq_some_iff.mp h
      obtain ⟨⟨j, r0⟩, h0, h⟩ := Option.bind_eq_some_iff.mp h
      obtain ⟨⟨x, r⟩, h1, h⟩ := Option.bind_eq_some_iff.mp h
      obtain ⟨⟨t, y⟩, h2, h⟩ := Option.bind_eq_some_iff.mp h
      obtain ⟨f, h3, h⟩ := Option.bind_eq_some_iff.mp h
      by_cases hcnd : tf t = .byte ∧ K0 ≤ x ∧ ¬ (j < 0 ∨ y.1 ≤ j.toNatClampNeg)
      · rw [if_pos hcnd] at h
        cases h
        have e0 := sx_popI_inv h9
        have e1 := sx_popI_inv h0
        have e2 := sx_popR_inv h1
        dsimp only at e0 e1 e2
        rw [e0, e1, e2]
        have he := sx_arr_inv h2
        obtain ⟨n, y⟩ := y
        have hy := sx_ai_inv h3
        dsimp only at hy
        rw [hy] at he
        obtain ⟨q, hq⟩ := sx_R.kd hR he
        exact sx_bast hexec hb hK hA hR hL he hcnd.2.1 hq (by rw [htf t q hq]; exact hcnd.1) hcnd.2.2 hd (fun H1 locs1 hR1 hL1 => kk ls H1 locs1 hl hR1 hL1)
      · rw [if_neg hcnd] at h
        cases h
    · rw [if_neg hb0] at h
      obtain ⟨⟨v, r1⟩, h9, h⟩ := Option.bind_eq_some_iff.mp h
      obtain ⟨⟨j, r0⟩, h0, h⟩ := Option.bind_eq_some_iff.mp h
      obtain ⟨⟨x, r⟩, h1, h⟩ := Option.bind_eq_some_iff.mp h
      obtain ⟨⟨t, y⟩, h2, h⟩ := Option.bind_eq_some_iff.mp h
      obtain ⟨f, h3, h⟩ := Option.bind_eq_some_iff.mp h
      by_cases hcnd : tf t = .boolean ∧ K0 ≤ x ∧ ¬ (j < 0 ∨ y.1 ≤ j.toNatClampNeg)
      · rw [if_pos hcnd] at h
        cases h
        have e0 := sx_popI_inv h9
        have e1 := sx_popI_inv h0
        have e2 := sx_popR_inv h1
        dsimp only at e0 e1 e2
        rw [e0, e1, e2]
        have he := sx_arr_inv h2
        obtain ⟨n, y⟩ := y
        have hy := sx_ai_inv h3
        dsimp only at hy
        rw [hy] at he
        obtain ⟨q, hq⟩ := sx_R.kd hR he
        exact sx_zast hexec hb hK hA hR hL he hcnd.2.1 hq (by rw [htf t q hq]; exact hcnd.1) hcnd.2.2 hd (fun H1 locs1 hR1 hL1 => kk ls H1 locs1 hl hR1 hL1)
      · rw [if_neg hcnd] at h
        cases h
  | castore =>
    have ho : len = 1 := ho
    subst ho
    obtain ⟨⟨v, r1⟩, h9, h⟩ := Option.bind_eq_some_iff.mp h
    obtain ⟨⟨j, r0⟩, h0, h⟩ := Option.bind_eq_some_iff.mp h
    obtain ⟨⟨x, r⟩, h1, h⟩ := Option.bind_eq_some_iff.mp h
    obtain ⟨⟨t, y⟩, h2, h⟩ := Option.bind_eq_some_iff.mp h
    obtain ⟨f, h3, h⟩ := Option.bind_eq_some_iff.mp h
    by_cases hcnd : tf t = .char ∧ K0 ≤ x ∧ ¬ (j < 0 ∨ y.1 ≤ j.toNatClampNeg)
    · rw [if_pos hcnd] at h
      cases h
      have e0 := sx_popI_inv h9
      have e1 := sx_popI_inv h0
      have e2 := sx_popR_inv h1
      dsimp only at e0 e1 e2
      rw [e0, e1, e2]
      have he := sx_arr_inv h2
      obtain ⟨n, y⟩ := y
      have hy := sx_ai_inv h3
      dsimp only at hy
      rw [hy] at he
      obtain ⟨q, hq⟩ := sx_R.kd hR he
      exact sx_cast hexec hb hK hA hR hL he hcnd.2.1 hq (by rw [htf t q hq]; exact hcnd.1) hcnd.2.2 hd (fun H1 locs1 hR1 hL1 => kk ls H1 locs1 hl hR1 hL1)
    · rw [if_neg hcnd] at h
      cases h
  | lastore =>
    have ho : len = 1 := ho
    subst ho
    obtain ⟨⟨v, r1⟩, h9, h⟩ := Option.bind_eq_some_iff.mp h
    obtain ⟨⟨j, r0⟩, h0, h⟩ := Option.bind_eq_some_iff.mp h
    obtain ⟨⟨x, r⟩, h1, h⟩ := Option.bind_eq_some_iff.mp h
    obtain ⟨⟨t, y⟩, h2, h⟩ := Option.bind_eq_some_iff.mp h
    obtain ⟨f, h3, h⟩ := Option.bind_eq_some_iff.mp h
    by_cases hcnd : tf t = .long ∧ K0 ≤ x ∧ ¬ (j < 0 ∨ y.1 ≤ j.toNatClampNeg)
    · rw [if_pos hcnd] at h
      cases h
      have e0 := sx_popL_inv h9
      have e1 := sx_popI_inv h0
      have e2 := sx_popR_inv h1
      dsimp only at e0 e1 e2
      rw [e0, e1, e2]
      have he := sx_arr_inv h2
      obtain ⟨n, y⟩ := y
      have hy := sx_al_inv h3
      dsimp only at hy
      rw [hy] at he
      obtain ⟨q, hq⟩ := sx_R.kd hR he
      exact sx_last hexec hb hK hA hR hL he hcnd.2.1 hq (by rw [htf t q hq]; exact hcnd.1) hcnd.2.2 hd (fun H1 locs1 hR1 hL1 => kk ls H1 locs1 hl hR1 hL1)
    · rw [if_neg hcnd] at h
      cases h
  | aastore =>
    have ho : len = 1 := ho
    subst ho
    obtain ⟨⟨v, r1⟩, h9, h⟩ := Option.bind_eq_some_iff.mp h
    obtain ⟨⟨j, r0⟩, h0, h⟩ := Option.bind_eq_some_iff.mp h
    obtain ⟨⟨x, r⟩, h1, h⟩ := Option.bind_eq_some_iff.mp h
    obtain ⟨⟨t, n, y⟩, h2, h⟩ := Option.bind_eq_some_iff.mp h
    obtain ⟨f, h3, h⟩ := Option.bind_eq_some_iff.mp h
    by_cases hcnd : K0 ≤ x ∧ ¬ (j < 0 ∨ n ≤ j.toNatClampNeg)
    · rw [if_pos hcnd] at h
      have e0 := sx_pop_inv h9
      have e1 := sx_popI_inv h0
      have e2 := sx_popR_inv h1
      dsimp only at e0 e1 e2
      rw [e0, e1, e2]
      have he := sx_arr_inv h2
      have hy := sx_aq_inv h3
      dsimp only at hy
      rw [hy] at he
      obtain ⟨q, hq⟩ := sx_R.kd hR he
      clear h9 e0
      cases v with
      | null =>
        dsimp only at h
        by_cases hz : cst 0 t = true
        · rw [if_pos hz] at h
          cases h
          obtain ⟨E, hE⟩ := hc0 t hz
          have hq2 : q = (q.1, .object E) := by rw [← hE, ← htf t q hq]
          rw [hq2] at hq
          exact sx_aastN hexec hb hK hA hR hL he hcnd.1 hq hcnd.2 hd (fun H1 locs1 hR1 hL1 => kk ls H1 locs1 hl hR1 hL1)
        · rw [if_neg hz] at h
          cases h
      | ref w =>
        dsimp only at h
        obtain ⟨⟨ci, vs⟩, h4, h⟩ := Option.bind_eq_some_iff.mp h
        by_cases hz : K0 ≤ w ∧ cst (ci + 1) t = true
        · rw [if_pos hz] at h
          cases h
          obtain ⟨r', E, hr, hE, hca⟩ := hc1 ci t hz.2
          have hq2 : q = (q.1, .object E) := by rw [← hE, ← htf t q hq]
          rw [hq2] at hq
          exact sx_aast hexec hb hK hA hR hL he hcnd.1 hq (sx_obj_inv h4) hz.1 hr (hca.imp id (fun z => hxw _ z)) hcnd.2 hd (fun H1 locs1 hR1 hL1 => kk ls H1 locs1 hl hR1 hL1)
        · rw [if_neg hz] at h
          cases h
      | _ => cases h
    · rw [if_neg hcnd] at h
      cases h
  | getstatic idx =>
    obtain ⟨rfl, ho⟩ := ho
    obtain ⟨⟨C, n, d, v⟩, h1, h⟩ := Option.bind_eq_some_iff.mp h
    cases h
    exact sx_gets hexec hb hR (List.mem_of_getElem? h1) hown (hts _ (ho _ h1)) (fun _ z => z) hd (kk ls H locs hl hR hL)
  | ldc idx =>
    obtain ⟨rfl, ho⟩ := ho
    simp only [sx_hs] at h
    by_cases hb0 : b = 0
    · rw [if_pos hb0] at h
      obtain ⟨v, hv, ho⟩ := ho hb0
      rw [hv] at h
      cases h
      exact lv_ldc hexec hb hown (hts _ ho) hd (kk ls H locs hl hR hL)
    · rw [if_neg hb0] at h
      cases h
  | checkcast idx =>
    obtain ⟨rfl, ho⟩ := ho
    obtain ⟨⟨v, r⟩, h1, h⟩ := Option.bind_eq_some_iff.mp h
    have e1 := sx_pop_inv h1
    subst e1
    cases v with
    | null =>
      cases h
      exact lv_castN hexec hb hd (kk ls H locs hl hR hL)
    | ref x =>
      dsimp only at h
      obtain ⟨⟨ci, fs⟩, h2, h⟩ := Option.bind_eq_some_iff.mp h
      by_cases hz : ci = a ∧ K0 ≤ x
      · rw [if_pos hz] at h
        cases h
        obtain ⟨hci, hzK⟩ := hz
        obtain ⟨r', hr', cellV, g1, g2, g3, -⟩ := hR.2.2.1 x _ (sx_obj_inv h2) hzK
        have hcls := (hK.1 ci r' hr').2
        have hlink := hts _ (ho r' (by rw [← hci]; exact hr'))
        have k := kk ls H locs hl hR hL
        intro T hT X
        obtain ⟨vm', X', st'⟩ := X.checkcastYes hexec hown hlink (by rw [hT]; exact g1) (by rw [g3]; rfl) hcls.1 (by rw [g2]; exact va_assign hcls) (g := F0 m pc ls (.ref (ua x) :: sx_upS ua r)) rfl rfl (by rw [hb]; exact hd)
        obtain ⟨t, a1, b1⟩ := k (T.setVm vm') hT X'
        exact ⟨t, st' t a1, b1⟩
      · rw [if_neg hz] at h
        cases h
    | _ => cases h
  | ldc_w idx =>
    obtain ⟨rfl, v, hv, ho⟩ := ho
    simp only [sx_hs, hv] at h
    cases h
    exact lv_ldcw hexec hb hown (hts _ ho) hd (kk ls H locs hl hR hL)
  | ldc2_w idx =>
    obtain ⟨rfl, v, hv, ho⟩ := ho
    simp only [sx_hs, hv] at h
    cases h
    exact lv_ldc2 hexec hb hown (hts _ ho) hd (kk ls H locs hl hR hL)
  | _ =>
    simp only [sx_hs] at h
    obtain ⟨F', h1, h2⟩ := Option.bind_eq_some_iff.mp h
    cases h2
    exact sx_pure_ok hexec hb hA.2.2.1 hd hl h1 (fun ls' hl' => kk ls' H locs hl' hR hL)
end SXL
