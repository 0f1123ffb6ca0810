/-! THE START: the law's entry state holds the abstract heap with its two first cells: the script, and the array that a new ArrayList shows -/
def s_h0 (L : Nat) (xs : Nat → Int32) : sx_H := [.inl (0, (L, .inl xs)), .inl (4, (0, .inr (.inr (.inr (.inr (fun _ => none))))))]
def sx_ua (b t1 base : Nat) : Nat → Nat := fun k => if k = 0 then b else if k = 1 then t1 else base + (k - 2)
theorem sx_ua_A {b t1 base : Nat} (hb : b < base) (ht : t1 < base) (hne : b ≠ t1) : sx_A 2 base (sx_ua b t1 base) := by
  refine ⟨fun k hk => ?_, fun k hk => ?_, fun x y h => ?_⟩
  · unfold sx_ua
    rw [if_neg (by omega), if_neg (by omega)]
    omega
  · unfold sx_ua
    split
    · exact hb
    · split
      · exact ht
      · omega
  · unfold sx_ua at h
    split at h <;> split at h <;> try split at h
    all_goals (try split at h)
    all_goals omega
theorem sx_arrP {args : Array Value} {s : State} {ty : FieldType} (h : (Cond.arrayClass ty).before args s = true) (hty : ∀ C, ty ≠ .object C) : ∃ cA : ClassId, ArrOfT s cA ty ∧ va_RA s cA ty := by
  obtain ⟨c, k, comp, h1, h2, h3⟩ := Cond.arrayClass_spec h
  refine ⟨c, fun n z => ⟨fun k h => (by cases h), k, h2, comp, h3⟩, ?_⟩
  cases ty with
  | object C => exact absurd rfl (hty C)
  | _ => exact h1
theorem sx_arrO {args : Array Value} {s : State} {C : String} (h : (Cond.arrayOver (.object C)).before args s = true) : ∃ cA : ClassId, ArrOfT s cA (.object C) ∧ va_RA s cA (.object C) := by
  obtain ⟨comp, c, k, h1, -, h3, h4, h5⟩ := Cond.arrayOver_spec h
  exact ⟨c, fun n z => ⟨fun k h => (by cases h), k, h3, comp, h4⟩, k, comp, h3, h4, h1, h5⟩
theorem s_kinds {args : Array Value} {s : State} (hts : ∀ w ∈ lw_tbl, w.before args s = true) : ∀ t, t < s_nt → ∃ cA : ClassId, ArrOfT s cA (s_tf t) ∧ va_RA s cA (s_tf t) := by
  intro t ht
  have ht : t < 9 := ht
  match t, ht with
  | 0, _ => exact sx_arrP (hts (.arrayClass .int) (by decide +kernel)) (fun C h => by cases h)
  | 1, _ => exact sx_arrP (hts (.arrayClass .byte) (by decide +kernel)) (fun C h => by cases h)
  | 2, _ => exact sx_arrP (hts (.arrayClass .boolean) (by decide +kernel)) (fun C h => by cases h)
  | 3, _ => exact sx_arrP (hts (.arrayClass .long) (by decide +kernel)) (fun C h => by cases h)
  | 4, _ => exact sx_arrO (hts (.arrayOver (s_tf 4)) (by decide +kernel))
  | 5, _ => exact sx_arrO (hts (.arrayOver (s_tf 5)) (by decide +kernel))
  | 6, _ => exact sx_arrO (hts (.arrayOver (s_tf 6)) (by decide +kernel))
  | 7, _ => exact sx_arrO (hts (.arrayOver (s_tf 7)) (by decide +kernel))
  | 8, _ => exact sx_arrO (hts (.arrayOver (s_tf 8)) (by decide +kernel))
theorem s_insts : ∀ q ∈ s_cl, Cond.instantiable q.1 q.2.2 ∈ sx_tw := by
  have h : s_cl.all (fun q => sx_inT (.instantiable q.1 q.2.2)) = true := by decide +kernel
  intro q hq
  exact sx_inT_ok (List.all_eq_true.mp h q hq)
theorem s_tf_range (cA : Nat → ClassId) {t : Nat} {q : ClassId × FieldType} (h : ((List.range s_nt).map (fun t => (cA t, s_tf t)))[t]? = some q) : t < s_nt ∧ q = (cA t, s_tf t) := by
  rw [List.getElem?_map] at h
  cases hr : (List.range s_nt)[t]? with
  | none => rw [hr] at h; cases h
  | some u =>
    rw [hr] at h
    have hlt : t < (List.range s_nt).length := (List.getElem?_eq_some_iff.mp hr).1
    rw [List.length_range] at hlt
    have hu : u = t := by
      rw [List.getElem?_range hlt] at hr
      exact (Option.some.inj hr).symm
    subst hu
    cases h
    exact ⟨hlt, rfl⟩
set_option maxHeartbeats 4000000 in
theorem s_begin {s : State} {b L : Nat} {xs : Nat → Int32} (htsA : ∀ w ∈ sx_all, w.before #[Value.ref b] s = true) (hX : va_X b L xs s s.heap) (hbl : b < s.heap.size) (hgv : (Jvm.Cond.and given_1 narrow_1).before #[Value.ref b] s = true) :
    ∃ (D : va_G) (tys : List (ClassId × FieldType)) (t1 : Nat), sx_A 2 s.heap.size (sx_ua b t1 s.heap.size) ∧ va_K D s_cl tys s ∧ (∀ t q, tys[t]? = some q → q.2 = s_tf t) ∧ (∀ t, t < s_nt → ∃ cT, tys[t]? = some (cT, s_tf t)) ∧ sx_R D s_cl tys s_ex s_zs 2 s.heap.size (sx_ua b t1 s.heap.size) s (s_h0 L xs) s.heap := by
  have hts : ∀ w ∈ lw_tbl, w.before #[Value.ref b] s = true := fun w hw => htsA w (List.mem_cons_of_mem _ hw)
  have hg := flat_of_before _ hgv
  have hAll : ∀ w ∈ sx_tw, w.before #[Value.ref b] s = true := fun w hw => htsA w (List.mem_filter.mp hw).1
  have hKn : ∀ ci : Nat, ∃ (c : ClassId) (iS : Nat → Nat), ∀ q : vw_C, s_cl[ci]? = some q → u_Kn s q.1 q.2.1 q.2.2 c iS := by
    intro ci
    cases h : s_cl[ci]? with
    | none => exact ⟨0, fun _ => 0, fun q hq => by cases hq⟩
    | some q =>
      obtain ⟨c, iS, hk⟩ := u_known (C := q.1) (T := q.2.1) (N := q.2.2) (n := q.2.2) hAll (s_okC q (List.mem_of_getElem? h)) (hAll _ (s_insts q (List.mem_of_getElem? h)))
      exact ⟨c, iS, fun q' hq' => by cases hq'; exact hk⟩
  have hKd := s_kinds hts
  have hA0 : ∀ a : Nat, a < s.heap.size → ¬ (fun q : Nat => s.heap.size ≤ q) a := fun a ha hz => Nat.not_le.mpr ha hz
  obtain ⟨t1, ht1, cell1, c1, c2, c3, c4, c5, -, c7⟩ := va_Tof (tm := .static "java/util/ArrayList" "DEFAULTCAPACITY_EMPTY_ELEMENTDATA" "[Ljava/lang/Object;") (ty := .object "java/lang/Object") (N := 0) (f := fun _ => .null) (A := fun q : Nat => s.heap.size ≤ q) (args := #[Value.ref b]) (s := s) (by decide)
    (hg _ (by decide +kernel)) (va_eqt (z := 0) (hg _ (by decide +kernel))) (fun j hj => absurd hj (Nat.not_lt_zero j)) hA0
  have hlt1 : t1 < s.heap.size := (Array.getElem?_eq_some_iff.mp c1).1
  obtain ⟨scr, x1, x2, x3, x4, x5⟩ := hX
  have hne : b ≠ t1 := by
    intro e
    subst e
    cases x1.symm.trans c1
    obtain ⟨-, k1, g1, p1, g2⟩ := x2
    obtain ⟨-, k2, g3, p2, g4⟩ := c2
    cases g1.symm.trans g3
    rw [g2] at g4
    cases g4
  refine ⟨(fun ci => (hKn ci).choose, fun ci => (hKn ci).choose_spec.choose), (List.range s_nt).map (fun t => (if h : t < s_nt then (hKd t h).choose else 0, s_tf t)), t1, sx_ua_A hbl hlt1 hne, ⟨fun ci q hq => (hKn ci).choose_spec.choose_spec q hq, fun k q hk => ?_⟩, fun t q hq => ?_, fun t ht => ?_, Nat.le_refl 2, ?_, ?_, ?_, ?_, ?_, ?_⟩
  · obtain ⟨hlt, rfl⟩ := s_tf_range (fun t => if h : t < s_nt then (hKd t h).choose else 0) hk
    dsimp only
    rw [dif_pos hlt]
    exact (hKd k hlt).choose_spec
  · obtain ⟨-, rfl⟩ := s_tf_range (fun t => if h : t < s_nt then (hKd t h).choose else 0) hq
    rfl
  · refine ⟨if h : t < s_nt then (hKd t h).choose else 0, ?_⟩
    rw [List.getElem?_map, List.getElem?_range ht]
    rfl
  · show s.heap.size + 2 = s.heap.size + 2
    rfl
  · intro k c hk hK2
    have hlt : k < 2 := (List.getElem?_eq_some_iff.mp hk).1
    omega
  · intro k c hk hK2
    match k, hK2, hk with
    | 0, _, hk =>
      cases hk
      refine ⟨_, rfl, scr, x1, x2, x3, ?_, fun j hj => x5 j hj⟩
      rw [x4]
      exact ⟨Nat.le_refl _, rfl⟩
    | 1, _, hk =>
      cases hk
      exact ⟨_, rfl, cell1, c1, c2, c3, ⟨c4, c5⟩, fun j hj => absurd hj (Nat.not_lt_zero j)⟩
  · intro z hz
    simp only [s_zs, List.mem_cons, List.not_mem_nil, or_false] at hz
    rcases hz with rfl | rfl
    · exact va_Zof (hts _ (by decide +kernel)) (hts _ (by decide +kernel)) (va_eqi (hg _ (by decide +kernel))) hA0
    · exact va_Zof (hts _ (by decide +kernel)) (hts _ (by decide +kernel)) ht1 hA0
  · exact sx_LS.of (hts _ (by decide +kernel)) (hg _ (by decide +kernel)) (Nat.le_refl _)
  · exact sx_LS.of (hts _ (by decide +kernel)) (hg _ (by decide +kernel)) (Nat.le_refl _)
