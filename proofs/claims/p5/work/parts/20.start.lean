/-! THE START: the law's entry state holds the abstract heap with its two first cells: the script, and the array that a new ArrayList shows -/
def s_dO (j : Nat) : Int32 := Int32.ofNat (48 + j % 10)
def s_dT (j : Nat) : Int32 := Int32.ofNat (48 + j / 10)
def s_h0 (L : Nat) (xs : Nat → Int32) : sx_H := [.inl (0, (L, .inl xs)), .inl (4, (0, .inr (.inr (.inr (.inr (fun _ => none)))))), .inl (1, (100, .inl s_dO)), .inl (1, (100, .inl s_dT)), .inr (.inr 0)]
def sx_ua (b t1 t2 t3 mi base : Nat) : Nat → Nat := fun k => if k = 0 then b else if k = 1 then t1 else if k = 2 then t2 else if k = 3 then t3 else if k = 4 then mi else base + (k - 5)
theorem sx_ua_A {b t1 t2 t3 mi base : Nat} (hb : b < base) (h1 : t1 < base) (h2 : t2 < base) (h3 : t3 < base) (e1 : b ≠ t1) (e2 : b ≠ t2) (e3 : b ≠ t3) (e4 : t1 ≠ t2) (e5 : t1 ≠ t3) (e6 : t2 ≠ t3) : sx_A 5 base (sx_ua b t1 t2 t3 mi base) := by
  refine ⟨fun k hk => ?_, fun k hk h4 => ?_, fun x y hx hy h => ?_, by decide⟩
  · unfold sx_ua
    rw [if_neg (by omega), if_neg (by omega), if_neg (by omega), if_neg (by omega), if_neg (by omega)]
    omega
  · unfold sx_ua
    match k, hk, h4 with
    | 0, _, _ => exact hb
    | 1, _, _ => exact h1
    | 2, _, _ => exact h2
    | 3, _, _ => exact h3
    | 4, _, h4 => exact absurd rfl h4
  · have key : ∀ k, k ≠ 4 → (k = 0 ∧ sx_ua b t1 t2 t3 mi base k = b) ∨ (k = 1 ∧ sx_ua b t1 t2 t3 mi base k = t1) ∨ (k = 2 ∧ sx_ua b t1 t2 t3 mi base k = t2) ∨ (k = 3 ∧ sx_ua b t1 t2 t3 mi base k = t3) ∨ (5 ≤ k ∧ sx_ua b t1 t2 t3 mi base k = base + (k - 5)) := by
      intro k h4
      match k, h4 with
      | 0, _ => exact Or.inl ⟨rfl, rfl⟩
      | 1, _ => exact Or.inr (Or.inl ⟨rfl, rfl⟩)
      | 2, _ => exact Or.inr (Or.inr (Or.inl ⟨rfl, rfl⟩))
      | 3, _ => exact Or.inr (Or.inr (Or.inr (Or.inl ⟨rfl, rfl⟩)))
      | 4, h4 => exact absurd rfl h4
      | k + 5, _ =>
        refine Or.inr (Or.inr (Or.inr (Or.inr ⟨by omega, ?_⟩)))
        unfold sx_ua
        rw [if_neg (by omega), if_neg (by omega), if_neg (by omega), if_neg (by omega), if_neg (by omega)]
    rcases key x hx with ⟨g1, g2⟩ | ⟨g1, g2⟩ | ⟨g1, g2⟩ | ⟨g1, g2⟩ | ⟨g1, g2⟩ <;> rcases key y hy with ⟨g3, g4⟩ | ⟨g3, g4⟩ | ⟨g3, g4⟩ | ⟨g3, g4⟩ | ⟨g3, g4⟩ <;> rw [g2, g4] at h <;> omega
theorem s_dig {s : State} {A : Array Value} (hgv : (Jvm.Cond.and given_1 narrow_1).before A s = true) : (∀ j : Nat, j < 100 → (Term.elem (.static "java/lang/Integer" "DigitOnes" "[B") (.int (Int32.ofNat j))).eval A s none [] s = some (.int (s_dO j))) ∧ ∀ j : Nat, j < 100 → (Term.elem (.static "java/lang/Integer" "DigitTens" "[B") (.int (Int32.ofNat j))).eval A s none [] s = some (.int (s_dT j)) := by
  have hg := flat_of_before _ hgv
  have h1 : (List.range 100).map (fun j => Cond.eq (.elem (.static "java/lang/Integer" "DigitOnes" "[B") (.int (Int32.ofNat j))) (.int (s_dO j))) = ((flatC (Jvm.Cond.and given_1 narrow_1)).drop 18).take 100 := by decide +kernel
  have h2 : (List.range 100).map (fun j => Cond.eq (.elem (.static "java/lang/Integer" "DigitTens" "[B") (.int (Int32.ofNat j))) (.int (s_dT j))) = ((flatC (Jvm.Cond.and given_1 narrow_1)).drop 121).take 100 := by decide +kernel
  exact ⟨fun j hj => va_eqt (hg _ (va_run h1 j hj)), fun j hj => va_eqt (hg _ (va_run h2 j hj))⟩
theorem s_apart {s : State} {a b : Nat} {ca cb : Cell} {ta tb : FieldType} (h1 : s.heap[a]? = some ca) (h2 : s.heap[b]? = some cb) (h3 : s.isArrayOf ca ta) (h4 : s.isArrayOf cb tb) (hne : ta ≠ tb) : a ≠ b := by
  intro e
  subst e
  cases h1.symm.trans h2
  obtain ⟨-, k1, g1, p1, g2⟩ := h3
  obtain ⟨-, k2, g3, p2, g4⟩ := h4
  cases g1.symm.trans g3
  rw [g2] at g4
  cases g4
  exact hne rfl
theorem sx_arrP {args : Array Value} {s : State} {ty : FieldType} (h : (Cond.arrayClass ty).before args s = true) (hty : ∀ C, ty ≠ .object C) : ∃ cA : ClassId, ArrOfT s cA ty ∧ va_RA s cA ty := by
  obtain ⟨c, k, comp, h1, h2, h3⟩ := Cond.arrayClass_spec h
  refine ⟨c, fun n z => ⟨fun k h => (by cases h), k, h2, comp, h3⟩, ?_⟩
  cases ty with
  | object C => exact absurd rfl (hty C)
  | _ => exact h1
theorem sx_arrO {args : Array Value} {s : State} {C : String} (h : (Cond.arrayOver (.object C)).before args s = true) : ∃ cA : ClassId, ArrOfT s cA (.object C) ∧ va_RA s cA (.object C) := by
  obtain ⟨comp, c, k, h1, -, h3, h4, h5⟩ := Cond.arrayOver_spec h
  exact ⟨c, fun n z => ⟨fun k h => (by cases h), k, h3, comp, h4⟩, k, comp, h3, h4, h1, h5⟩
theorem s_kinds {args : Array Value} {s : State} (hts : ∀ w ∈ lw_tbl, w.before args s = true) : ∀ t, t < s_nt → ∃ cA : ClassId, ArrOfT s cA (s_tf t) ∧ va_RA s cA (s_tf t) := by
  intro t ht
  have ht : t < 9 := ht
  match t, ht with
  | 0, _ => exact sx_arrP (hts (.arrayClass .int) (by decide +kernel)) (fun C h => by cases h)
  | 1, _ => exact sx_arrP (hts (.arrayClass .byte) (by decide +kernel)) (fun C h => by cases h)
  | 2, _ => exact sx_arrP (hts (.arrayClass .boolean) (by decide +kernel)) (fun C h => by cases h)
  | 3, _ => exact sx_arrP (hts (.arrayClass .long) (by decide +kernel)) (fun C h => by cases h)
  | 4, _ => exact sx_arrO (hts (.arrayOver (s_tf 4)) (by decide +kernel))
  | 5, _ => exact sx_arrO (hts (.arrayOver (s_tf 5)) (by decide +kernel))
  | 6, _ => exact sx_arrO (hts (.arrayOver (s_tf 6)) (by decide +kernel))
  | 7, _ => exact sx_arrO (hts (.arrayOver (s_tf 7)) (by decide +kernel))
  | 8, _ => exact sx_arrO (hts (.arrayOver (s_tf 8)) (by decide +kernel))
theorem s_insts : ∀ q ∈ s_cl, Cond.instantiable q.1 q.2.2 ∈ sx_tw := by
  have h : s_cl.all (fun q => sx_inT (.instantiable q.1 q.2.2)) = true := by decide +kernel
  intro q hq
  exact sx_inT_ok (List.all_eq_true.mp h q hq)
theorem s_tf_range (cA : Nat → ClassId) {t : Nat} {q : ClassId × FieldType} (h : ((List.range s_nt).map (fun t => (cA t, s_tf t)))[t]? = some q) : t < s_nt ∧ q = (cA t, s_tf t) := by
  rw [List.getElem?_map] at h
  cases hr : (List.range s_nt)[t]? with
  | none => rw [hr] at h; cases h
  | some u =>
    rw [hr] at h
    have hlt : t < (List.range s_nt).length := (List.getElem?_eq_some_iff.mp hr).1
    rw [List.length_range] at hlt
    have hu : u = t := by
      rw [List.getElem?_range hlt] at hr
      exact (Option.some.inj hr).symm
    subst hu
    cases h
    exact ⟨hlt, rfl⟩
set_option maxHeartbeats 4000000 in
theorem s_begin {s : State} {b L : Nat} {xs : Nat → Int32} (htsA : ∀ w ∈ sx_all, w.before #[Value.ref b] s = true) (hX : va_X b L xs s s.heap) (hbl : b < s.heap.size) (hgv : (Jvm.Cond.and given_1 narrow_1).before #[Value.ref b] s = true) :
    ∃ (D : va_G) (tys : List (ClassId × FieldType)) (t1 t2 t3 mi : Nat), sx_A 5 s.heap.size (sx_ua b t1 t2 t3 mi s.heap.size) ∧ va_K D s_cl tys s ∧ (∀ t q, tys[t]? = some q → q.2 = s_tf t) ∧ (∀ t, t < s_nt → ∃ cT, tys[t]? = some (cT, s_tf t)) ∧ sx_R D s_cl tys s_ex s_zs 5 s.heap.size (sx_ua b t1 t2 t3 mi s.heap.size) s (s_h0 L xs) s.heap := by
  have hts : ∀ w ∈ lw_tbl, w.before #[Value.ref b] s = true := fun w hw => htsA w (List.mem_cons_of_mem _ (List.mem_append_right _ hw))
  have hg := flat_of_before _ hgv
  have hAll : ∀ w ∈ sx_tw, w.before #[Value.ref b] s = true := fun w hw => htsA w (List.mem_filter.mp hw).1
  have hKn : ∀ ci : Nat, ∃ (c : ClassId) (iS : Nat → Nat), ∀ q : vw_C, s_cl[ci]? = some q → u_Kn s q.1 q.2.1 q.2.2 c iS := by
    intro ci
    cases h : s_cl[ci]? with
    | none => exact ⟨0, fun _ => 0, fun q hq => by cases hq⟩
    | some q =>
      obtain ⟨c, iS, hk⟩ := u_known (C := q.1) (T := q.2.1) (N := q.2.2) (n := q.2.2) hAll (s_okC q (List.mem_of_getElem? h)) (hAll _ (s_insts q (List.mem_of_getElem? h)))
      exact ⟨c, iS, fun q' hq' => by cases hq'; exact hk⟩
  have hKd := s_kinds hts
  have hA0 : ∀ a : Nat, a < s.heap.size → ¬ (fun q : Nat => s.heap.size ≤ q) a := fun a ha hz => Nat.not_le.mpr ha hz
  obtain ⟨t1, ht1, cell1, c1, c2, c3, c4, c5, -, c7⟩ := va_Tof (tm := .static "java/util/ArrayList" "DEFAULTCAPACITY_EMPTY_ELEMENTDATA" "[Ljava/lang/Object;") (ty := .object "java/lang/Object") (N := 0) (f := fun _ => .null) (A := fun q : Nat => s.heap.size ≤ q) (args := #[Value.ref b]) (s := s) (by decide)
    (hg _ (by decide +kernel)) (va_eqt (z := 0) (hg _ (by decide +kernel))) (fun j hj => absurd hj (Nat.not_lt_zero j)) hA0
  have hlt1 : t1 < s.heap.size := (Array.getElem?_eq_some_iff.mp c1).1
  obtain ⟨scr, x1, x2, x3, x4, x5⟩ := hX
  obtain ⟨d1, d2⟩ := s_dig hgv
  obtain ⟨t2, ht2, cell2, p1, p2, p3, p4, p5, p6, p7⟩ := va_Tof (tm := .static "java/lang/Integer" "DigitOnes" "[B") (ty := .byte) (N := 100) (f := fun j => .int (s_dO j)) (A := fun q : Nat => s.heap.size ≤ q) (args := #[Value.ref b]) (s := s) (by decide)
    (hg _ (by decide +kernel)) (va_eqt (z := 100) (hg _ (by decide +kernel))) d1 hA0
  obtain ⟨t3, ht3, cell3, q1, q2, q3, q4, q5, q6, q7⟩ := va_Tof (tm := .static "java/lang/Integer" "DigitTens" "[B") (ty := .byte) (N := 100) (f := fun j => .int (s_dT j)) (A := fun q : Nat => s.heap.size ≤ q) (args := #[Value.ref b]) (s := s) (by decide)
    (hg _ (by decide +kernel)) (va_eqt (z := 100) (hg _ (by decide +kernel))) d2 hA0
  have hlt2 : t2 < s.heap.size := (Array.getElem?_eq_some_iff.mp p1).1
  have hlt3 : t3 < s.heap.size := (Array.getElem?_eq_some_iff.mp q1).1
  obtain ⟨mi, hmi⟩ := va_Mi.of (C := "[Ljava/lang/Object;") (hg _ (by decide +kernel))
  have hn1 : b ≠ t1 := s_apart x1 c1 x2 c2 (by decide)
  have hn2 : b ≠ t2 := s_apart x1 p1 x2 p2 (by decide)
  have hn3 : b ≠ t3 := s_apart x1 q1 x2 q2 (by decide)
  have hn4 : t1 ≠ t2 := s_apart c1 p1 c2 p2 (by decide)
  have hn5 : t1 ≠ t3 := s_apart c1 q1 c2 q2 (by decide)
  have hn6 : t2 ≠ t3 := by
    intro e
    subst e
    cases p1.symm.trans q1
    have g1 := p6 1 (by decide)
    have g2 := q6 1 (by decide)
    rw [g1] at g2
    exact absurd g2 (by decide)
  refine ⟨(fun ci => (hKn ci).choose, fun ci => (hKn ci).choose_spec.choose), (List.range s_nt).map (fun t => (if h : t < s_nt then (hKd t h).choose else 0, s_tf t)), t1, t2, t3, mi, sx_ua_A hbl hlt1 hlt2 hlt3 hn1 hn2 hn3 hn4 hn5 hn6, ⟨fun ci q hq => (hKn ci).choose_spec.choose_spec q hq, fun k q hk => ?_⟩, fun t q hq => ?_, fun t ht => ?_, Nat.le_refl 5, ?_, ?_, ?_, ?_, ?_, ?_, ?_⟩
  · obtain ⟨hlt, rfl⟩ := s_tf_range (fun t => if h : t < s_nt then (hKd t h).choose else 0) hk
    dsimp only
    rw [dif_pos hlt]
    exact (hKd k hlt).choose_spec
  · obtain ⟨-, rfl⟩ := s_tf_range (fun t => if h : t < s_nt then (hKd t h).choose else 0) hq
    rfl
  · refine ⟨if h : t < s_nt then (hKd t h).choose else 0, ?_⟩
    rw [List.getElem?_map, List.getElem?_range ht]
    rfl
  · show s.heap.size + 5 = s.heap.size + 5
    rfl
  · intro k c hk hK2
    have hlt : k < 5 := (List.getElem?_eq_some_iff.mp hk).1
    omega
  · intro k c hk hK2
    match k, hK2, hk with
    | 0, _, hk =>
      cases hk
      refine ⟨fun h => (by cases h), _, rfl, scr, x1, x2, x3, ?_, fun j hj => x5 j hj⟩
      rw [x4]
      exact ⟨Nat.le_refl _, rfl⟩
    | 1, _, hk =>
      cases hk
      exact ⟨fun h => (by cases h), _, rfl, cell1, c1, c2, c3, ⟨c4, c5⟩, fun j hj => absurd hj (Nat.not_lt_zero j)⟩
    | 2, _, hk =>
      cases hk
      exact ⟨fun h => (by cases h), _, rfl, cell2, p1, p2, p3, ⟨p4, p5⟩, p6⟩
    | 3, _, hk =>
      cases hk
      exact ⟨fun h => (by cases h), _, rfl, cell3, q1, q2, q3, ⟨q4, q5⟩, q6⟩
    | 4, _, hk =>
      cases hk
      exact ⟨fun _ => ⟨0, rfl⟩, hmi⟩
  · intro z hz
    simp only [s_zs, List.mem_cons, List.not_mem_nil, or_false] at hz
    rcases hz with rfl | rfl | rfl | rfl
    · exact va_Zof (hts _ (by decide +kernel)) (hts _ (by decide +kernel)) (va_eqi (hg _ (by decide +kernel))) hA0
    · exact va_Zof (hts _ (by decide +kernel)) (hts _ (by decide +kernel)) ht1 hA0
    · exact va_Zof (hts _ (by decide +kernel)) (hts _ (by decide +kernel)) ht2 hA0
    · exact va_Zof (hts _ (by decide +kernel)) (hts _ (by decide +kernel)) ht3 hA0
  · exact sx_LS.of (hts _ (by decide +kernel)) (hg _ (by decide +kernel)) (Nat.le_refl _)
  · exact sx_LS.of (hts _ (by decide +kernel)) (hg _ (by decide +kernel)) (Nat.le_refl _)
  · exact va_Zqof (hts _ (by decide +kernel)) (hts _ (by decide +kernel)) (hg _ (by decide +kernel)) hA0
