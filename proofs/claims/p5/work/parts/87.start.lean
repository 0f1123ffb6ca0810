/-! THE START, and the reference beside the class in one heap (the start's cases by program) -/
/-- the reference's cell at q -/
def mQ (v : Nat → Int32) (a : Nat → Nat → Int32) (q : Nat) : sx_C := match q with
  | 33 => mO v
  | 34 => .inl (0, (48, .inl (a 0)))
  | 35 => .inl (0, (624, .inl (a 1)))
  | 36 => .inl (0, (12, .inl (a 2)))
  | 37 => .inl (0, (8, .inl (a 3)))
  | 38 => .inl (0, (8, .inl (a 4)))
  | 39 => .inl (0, (26, .inl (a 5)))
  | 40 => .inl (0, (26, .inl (a 6)))
  | 41 => .inl (0, (26000, .inl (a 14)))
  | 42 => .inl (0, (26000, .inl (a 15)))
  | 43 => .inl (0, (78000, .inl (a 16)))
  | 44 => .inl (0, (12000, .inl (a 17)))
  | 45 => .inl (0, (61, .inl (a 18)))
  | 46 => .inl (0, (61, .inl (a 19)))
  | 47 => .inl (0, (61, .inl (a 20)))
  | 48 => .inl (0, (61, .inl (a 21)))
  | 49 => .inl (0, (61, .inl (a 22)))
  | 50 => .inl (0, (61, .inl (a 23)))
  | 51 => .inl (0, (61, .inl (a 24)))
  | 52 => .inl (0, (61, .inl (a 25)))
  | 53 => .inl (0, (854, .inl (a 26)))
  | 54 => .inl (0, (244, .inl (a 27)))
  | 55 => .inl (0, (4, .inl (a 28)))
  | 56 => .inl (0, (14, .inl (a 29)))
  | 57 => .inl (2, (61, .inl (a 30)))
  | 58 => .inl (0, (200, .inl (a 31)))
  | 59 => .inl (0, (200, .inl (a 32)))
  | 60 => .inl (0, (8, .inl (a 33)))
  | 61 => .inl (0, (8, .inl (a 34)))
  | 62 => .inl (0, (80, .inl (a 35)))
  | 63 => .inl (0, (800, .inl (a 36)))
  | _ => .inr (.inr 0)
theorem mQ_sh (v v1 : Nat → Int32) (a a1 : Nat → Nat → Int32) (q : Nat) (h1 : 33 ≤ q) (h2 : q ≤ 63) : (∃ fs fs1, mQ v a q = oC 12 fs ∧ mQ v1 a1 q = oC 12 fs1) ∨ ∃ t n f f1, (t = 0 ∨ t = 2) ∧ mQ v a q = .inl (t, (n, .inl f)) ∧ mQ v1 a1 q = .inl (t, (n, .inl f1)) := by
  have h : q = 33 ∨ q = 34 ∨ q = 35 ∨ q = 36 ∨ q = 37 ∨ q = 38 ∨ q = 39 ∨ q = 40 ∨ q = 41 ∨ q = 42 ∨ q = 43 ∨ q = 44 ∨ q = 45 ∨ q = 46 ∨ q = 47 ∨ q = 48 ∨ q = 49 ∨ q = 50 ∨ q = 51 ∨ q = 52 ∨ q = 53 ∨ q = 54 ∨ q = 55 ∨ q = 56 ∨ q = 57 ∨ q = 58 ∨ q = 59 ∨ q = 60 ∨ q = 61 ∨ q = 62 ∨ q = 63 := by omega
  rcases h with rfl | rfl | rfl | rfl | rfl | rfl | rfl | rfl | rfl | rfl | rfl | rfl | rfl | rfl | rfl | rfl | rfl | rfl | rfl | rfl | rfl | rfl | rfl | rfl | rfl | rfl | rfl | rfl | rfl | rfl | rfl
  · exact Or.inl ⟨_, _, rfl, rfl⟩
  · exact Or.inr ⟨0, 48, _, _, Or.inl rfl, rfl, rfl⟩
  · exact Or.inr ⟨0, 624, _, _, Or.inl rfl, rfl, rfl⟩
  · exact Or.inr ⟨0, 12, _, _, Or.inl rfl, rfl, rfl⟩
  · exact Or.inr ⟨0, 8, _, _, Or.inl rfl, rfl, rfl⟩
  · exact Or.inr ⟨0, 8, _, _, Or.inl rfl, rfl, rfl⟩
  · exact Or.inr ⟨0, 26, _, _, Or.inl rfl, rfl, rfl⟩
  · exact Or.inr ⟨0, 26, _, _, Or.inl rfl, rfl, rfl⟩
  · exact Or.inr ⟨0, 26000, _, _, Or.inl rfl, rfl, rfl⟩
  · exact Or.inr ⟨0, 26000, _, _, Or.inl rfl, rfl, rfl⟩
  · exact Or.inr ⟨0, 78000, _, _, Or.inl rfl, rfl, rfl⟩
  · exact Or.inr ⟨0, 12000, _, _, Or.inl rfl, rfl, rfl⟩
  · exact Or.inr ⟨0, 61, _, _, Or.inl rfl, rfl, rfl⟩
  · exact Or.inr ⟨0, 61, _, _, Or.inl rfl, rfl, rfl⟩
  · exact Or.inr ⟨0, 61, _, _, Or.inl rfl, rfl, rfl⟩
  · exact Or.inr ⟨0, 61, _, _, Or.inl rfl, rfl, rfl⟩
  · exact Or.inr ⟨0, 61, _, _, Or.inl rfl, rfl, rfl⟩
  · exact Or.inr ⟨0, 61, _, _, Or.inl rfl, rfl, rfl⟩
  · exact Or.inr ⟨0, 61, _, _, Or.inl rfl, rfl, rfl⟩
  · exact Or.inr ⟨0, 61, _, _, Or.inl rfl, rfl, rfl⟩
  · exact Or.inr ⟨0, 854, _, _, Or.inl rfl, rfl, rfl⟩
  · exact Or.inr ⟨0, 244, _, _, Or.inl rfl, rfl, rfl⟩
  · exact Or.inr ⟨0, 4, _, _, Or.inl rfl, rfl, rfl⟩
  · exact Or.inr ⟨0, 14, _, _, Or.inl rfl, rfl, rfl⟩
  · exact Or.inr ⟨2, 61, _, _, Or.inr rfl, rfl, rfl⟩
  · exact Or.inr ⟨0, 200, _, _, Or.inl rfl, rfl, rfl⟩
  · exact Or.inr ⟨0, 200, _, _, Or.inl rfl, rfl, rfl⟩
  · exact Or.inr ⟨0, 8, _, _, Or.inl rfl, rfl, rfl⟩
  · exact Or.inr ⟨0, 8, _, _, Or.inl rfl, rfl, rfl⟩
  · exact Or.inr ⟨0, 80, _, _, Or.inl rfl, rfl, rfl⟩
  · exact Or.inr ⟨0, 800, _, _, Or.inl rfl, rfl, rfl⟩
/-- the class's heap with the reference in it -/
def mG (G : Nat → sx_C) (v : Nat → Int32) (a : Nat → Nat → Int32) : Nat → sx_C := fun q => if 33 ≤ q ∧ q ≤ 63 then mQ v a q else G q
theorem mG_in {G : Nat → sx_C} {v : Nat → Int32} {a : Nat → Nat → Int32} {q : Nat} (h : 33 ≤ q ∧ q ≤ 63) : mG G v a q = mQ v a q := if_pos h
theorem mG_out {G : Nat → sx_C} {v : Nat → Int32} {a : Nat → Nat → Int32} {q : Nat} (h : ¬ (33 ≤ q ∧ q ≤ 63)) : mG G v a q = G q := if_neg h
theorem mG_id {G : Nat → sx_C} {v : Nat → Int32} {a : Nat → Nat → Int32} (h : ∀ q, 33 ≤ q → q ≤ 63 → G q = mQ v a q) : mG G v a = G := by
  funext q
  by_cases z : 33 ≤ q ∧ q ≤ 63
  · rw [mG_in z, h q z.1 z.2]
  · exact mG_out z
theorem mH_G {N : Nat} {G : Nat → sx_C} {v : Nat → Int32} {a : Nat → Nat → Int32} (hN : 64 ≤ N) : cH N (mG G v a) = mH G ((List.range (N - 64)).map (fun i => G (64 + i))) v a := by
  have e : cH N (mG G v a) = cH 64 (mG G v a) ++ (List.range (N - 64)).map (fun i => mG G v a (64 + i)) := by
    unfold cH
    have : List.range N = List.range 64 ++ (List.range (N - 64)).map (64 + ·) := by
      rw [← List.range_add]
      congr 1
      omega
    rw [this, List.map_append, List.map_map]
    rfl
  have e2 : (List.range (N - 64)).map (fun i => mG G v a (64 + i)) = (List.range (N - 64)).map (fun i => G (64 + i)) := List.map_congr_left (fun i _ => mG_out (by omega))
  rw [e, e2]
  rfl
/-- the reference's changes don't touch the class -/
theorem q_cI.ref {F : Nat → Prop} {T : Nat → Int32} {N n s P : Nat} {G : Nat → sx_C} {v v1 : Nat → Int32} {a a1 : Nat → Nat → Int32} (h : q_cI N G F T n s P) (hR : ∀ q, 33 ≤ q → q ≤ 63 → G q = mQ v a q) : q_cI N (mG G v1 a1) F T n s P := by
  obtain ⟨u, c, mk, nb, cnt, x, nn, pl, sz, m, f, ⟨hI, ⟨b, ml, ct, fb, b1, b2, b3, b4, b5, b6, b7, b8, b9⟩, ⟨ln, at_, d1, d2, d5, d6⟩, e5, ⟨k1, k2, k3, k4, k5, k6, k7, k8, k9, k10, k11⟩, f1, f2, f3, f4⟩, hP⟩ := h
  have h64 := hI.Z.2.1
  have un : ∀ q, q < 33 ∨ 63 < q → mG G v1 a1 q = G q := fun q hq => mG_out (by omega)
  have hb : b < 33 ∨ 63 < b := by
    by_cases z : 33 ≤ b ∧ b ≤ 63
    · exfalso
      have e := hR b z.1 z.2
      rcases mQ_sh v v1 a a1 b z.1 z.2 with ⟨fs, _, e1, _⟩ | ⟨t, k, g, _, ht, e1, _⟩
      · rw [e, e1] at b5
        cases b5
      · rw [e, e1] at b5
        have : t = 1 := by
          injection b5 with b5
          injection b5
        omega
    · omega
  have uF : ∀ q, F q → mG G v1 a1 q = G q := fun q z => un q (by have := f4 q z; omega)
  have sl : q_sl N G N (mG G v1 a1) := by
    refine ⟨Nat.le_refl N, fun q hq => ?_⟩
    by_cases z : 33 ≤ q ∧ q ≤ 63
    · have e := hR q z.1 z.2
      rw [mG_in z]
      rcases mQ_sh v v1 a a1 q z.1 z.2 with ⟨fs, fs1, e1, e2⟩ | ⟨t, k, g, g1, ht, e1, e2⟩
      · rw [e2]
        exact q_le.ob (e.trans e1) (by decide)
      · rw [e2]
        exact q_le.b (e.trans e1)
    · rw [mG_out z]
      exact q_le.rfl'
  have u12 := un 12 (by decide)
  have u31 := un 31 (by decide)
  have nV : ∀ q, q < 33 ∨ 63 < q → ¬ q_V G q → ¬ q_V (mG G v1 a1) q := fun q hq z y => z (y.of u12 (un q hq))
  have nX : ∀ q, ¬ q_X G q → ¬ q_X (mG G v1 a1) q := fun q z y => z (y.of u31)
  have hI1 : q_rI N (mG G v1 a1) u c mk := by
    refine hI.gen sl (fun q q1 q2 => un q (by omega)) (un 17 (by decide)) (fun q hq => un q (by have := hq.le; omega)) (fun y z w ey => ?_) (fun q q5 hq => ?_)
    · obtain ⟨sp, hn, -⟩ := hI
      obtain ⟨us, vr, sz', m', a', n', s', f', h1, h2, h3, h4, h5, h6, h7, h8, h9, h10, h11, h12, h13⟩ := hn.1.2.2.2.2
      have := (oC_inj (ey.symm.trans h3)).2
      cases this
      exact un y (by omega)
    · by_cases z : 33 ≤ q ∧ q ≤ 63
      · rw [mG_in z]
        rcases mQ_sh v v1 a a1 q z.1 z.2 with ⟨fs, fs1, e1, e2⟩ | ⟨t, k, g, g1, ht, e1, e2⟩
        · rw [e2]
          exact Or.inr (q_ok.ot (by decide) (by decide) (by decide))
        · rw [e2]
          exact Or.inr q_ok.b
      · exact Or.inl ⟨hq, mG_out z⟩
  have hx : x < 33 ∨ 63 < x := by omega
  refine ⟨u, c, mk, nb, cnt, x, nn, pl, sz, m, f, ⟨hI1, ⟨b, ml, ct, fb, u31.trans b1, b2, b3, b4, (un b hb).trans b5, b6, b7, b8, b9⟩, ⟨ln, at_, (un 6 (by decide)).trans d1, d2, d5, (un 7 (by decide)).trans d6⟩, (un 5 (by decide)).trans e5, ⟨(un 8 (by decide)).trans k1, k2, k3, k4, (un x hx).trans k5, k6, k7, k8, fun i hi => ?_, nV x hx k10, nX x k11⟩, fun q z => ?_, f2, fun q z => ⟨?_, nX q (f3 q z).2⟩, f4⟩, hP⟩
  · obtain ⟨q, z1, z2⟩ := k9 i hi
    exact ⟨q, z1, z2.fr (Nat.le_refl N) (fun _ z => z) uF⟩
  · obtain ⟨y1, y2, y3, y4⟩ := f1 q z
    exact ⟨y1, nV q (by have := f4 q z; omega) y2, nX q y3, y4⟩
  · by_cases w : 33 ≤ q ∧ q ≤ 63
    · intro y
      have e := hR q w.1 w.2
      have hy := (f3 q z).1
      rcases mQ_sh v v1 a a1 q w.1 w.2 with ⟨fs, fs1, e1, e2⟩ | ⟨t, k, g, g1, ht, e1, e2⟩
      · have e2' := (mG_in (G := G) w).trans e2
        rcases y with (y | ⟨y1, y2, y3, y4, y5⟩ | ⟨gs, y⟩ | ⟨g, y⟩) | y | y | ⟨gs, y⟩ | ⟨g, y⟩
        · omega
        · exact hy (Or.inl (Or.inr (Or.inl ⟨y1, y2, y3, u12.symm.trans y4, y5⟩)))
        · exact absurd (oC_inj (e2'.symm.trans y)).1 (by decide)
        · exact oa_ne (e2'.symm.trans y)
        · omega
        · omega
        · exact absurd (oC_inj (e2'.symm.trans y)).1 (by decide)
        · exact oa_ne (e2'.symm.trans y)
      · have e2' := (mG_in (G := G) w).trans e2
        rcases y with (y | ⟨y1, y2, y3, y4, y5⟩ | ⟨gs, y⟩ | ⟨g, y⟩) | y | y | ⟨gs, y⟩ | ⟨g, y⟩
        · omega
        · exact hy (Or.inl (Or.inr (Or.inl ⟨y1, y2, y3, u12.symm.trans y4, y5⟩)))
        · rw [e2'] at y
          cases y
        · rw [e2'] at y
          cases y
        · omega
        · omega
        · rw [e2'] at y
          cases y
        · rw [e2'] at y
          cases y
    · exact nV q (by omega) (f3 q z).1
/-- the law's array of one long -/
theorem q_cI.out {F : Nat → Prop} {T : Nat → Int32} {N n s P : Nat} {G : Nat → sx_C} {g g1 : Nat → Int64} (h : q_cI N G F T n s P) (e : G 64 = .inl (3, (1, .inr (.inl g)))) : q_cI N (va_up G 64 (.inl (3, (1, .inr (.inl g1))))) F T n s P := by
  obtain ⟨u, c, mk, nb, cnt, x, nn, pl, sz, m, f, ⟨hI, ⟨b, ml, ct, fb, b1, b2, b3, b4, b5, b6, b7, b8, b9⟩, ⟨ln, at_, d1, d2, d5, d6⟩, e5, ⟨k1, k2, k3, k4, k5, k6, k7, k8, k9, k10, k11⟩, f1, f2, f3, f4⟩, hP⟩ := h
  have h64 := hI.Z.2.1
  have un : ∀ q, q ≠ 64 → (va_up G 64 (.inl (3, (1, .inr (.inl g1))))) q = G q := fun q hq => va_ne hq
  have hb : b ≠ 64 := fun z => by
    rw [z, e] at b5
    cases b5
  have uF : ∀ q, F q → (va_up G 64 (.inl (3, (1, .inr (.inl g1))))) q = G q := fun q z => un q (by have := f4 q z; omega)
  have sl : q_sl N G N (va_up G 64 (.inl (3, (1, .inr (.inl g1))))) := by
    refine q_sl.up ?_
    rw [e]
    exact ⟨fun ci fs q => (by cases q), fun t n f q => (by cases q), fun j q => (by cases q), fun t n f q => (by cases q)⟩
  have u12 := un 12 (by decide)
  have u31 := un 31 (by decide)
  have nV : ∀ q, ¬ q_V G q → ¬ q_V (va_up G 64 (.inl (3, (1, .inr (.inl g1))))) q := fun q z y => by
    by_cases w : q = 64
    · rw [w] at y z
      have e2 : (va_up G 64 (.inl (3, (1, .inr (.inl g1))))) 64 = (.inl (3, (1, .inr (.inl g1))) : sx_C) := up_eq
      rcases y with (y | ⟨y1, y2, y3, y4, y5⟩ | ⟨gs, y⟩ | ⟨g, y⟩) | y | y | ⟨gs, y⟩ | ⟨g, y⟩
      · omega
      · exact z (Or.inl (Or.inr (Or.inl ⟨y1, y2, y3, u12.symm.trans y4, y5⟩)))
      · rw [e2] at y
        cases y
      · rw [e2] at y
        cases y
      · omega
      · omega
      · rw [e2] at y
        cases y
      · rw [e2] at y
        cases y
    · exact z (y.of u12 (un q w))
  have nX : ∀ q, ¬ q_X G q → ¬ q_X (va_up G 64 (.inl (3, (1, .inr (.inl g1))))) q := fun q z y => z (y.of u31)
  have hI1 : q_rI N (va_up G 64 (.inl (3, (1, .inr (.inl g1))))) u c mk := by
    refine hI.gen sl (fun q q1 q2 => un q (by omega)) (un 17 (by decide)) (fun q hq => un q (by have := hq.le; omega)) (fun y z w ey => un y (fun q => ?_)) (fun q q5 hq => ?_)
    · obtain ⟨sp, hn, -⟩ := hI
      obtain ⟨n', f', g1', -⟩ := hn.1.2.2.2.2.a4 ey
      rw [q, e] at g1'
      cases g1'
    · by_cases z : q = 64
      · rw [z, up_eq]
        exact Or.inr ⟨fun gs e => (by cases e), fun gs e => (by cases e), fun gs e => (by cases e), fun n f e => (by cases e), fun n f e => (by cases e)⟩
      · exact Or.inl ⟨hq, un q z⟩
  have hx : x ≠ 64 := by omega
  refine ⟨u, c, mk, nb, cnt, x, nn, pl, sz, m, f, ⟨hI1, ⟨b, ml, ct, fb, u31.trans b1, b2, b3, b4, (un b hb).trans b5, b6, b7, b8, b9⟩, ⟨ln, at_, (un 6 (by decide)).trans d1, d2, d5, (un 7 (by decide)).trans d6⟩, (un 5 (by decide)).trans e5, ⟨(un 8 (by decide)).trans k1, k2, k3, k4, (un x hx).trans k5, k6, k7, k8, fun i hi => ?_, nV x k10, nX x k11⟩, fun q z => ?_, f2, fun q z => ⟨nV q (f3 q z).1, nX q (f3 q z).2⟩, f4⟩, hP⟩
  · obtain ⟨q, z1, z2⟩ := k9 i hi
    exact ⟨q, z1, z2.fr (Nat.le_refl N) (fun _ z => z) uF⟩
  · obtain ⟨y1, y2, y3, y4⟩ := f1 q z
    exact ⟨y1, nV q y2, nX q y3, y4⟩
/-- the heap behind the two constructors, as a function -/
def s_G0 (L : Nat) (xs : Nat → Int32) : Nat → sx_C := fun q => ((sH_121 L xs)[q]?).getD (.inr (.inr 0))
theorem s_cH0 (L : Nat) (xs : Nat → Int32) : cH 65 (s_G0 L xs) = sH_121 L xs := by
  refine List.ext_getElem? (fun j => ?_)
  by_cases hj : j < 65
  · rw [cH_get hj]
    unfold s_G0
    have hl : j < (sH_121 L xs).length := hj
    rw [List.getElem?_eq_getElem hl]
    rfl
  · rw [List.getElem?_eq_none (by rw [cH_len]; omega), List.getElem?_eq_none (by show 65 ≤ j; omega)]
def s_v0 : Nat → Int32 := fun k => if k = 9 then -1 else 0
def s_a0 : Nat → Nat → Int32 := fun _ _ => 0
theorem s_ref0 (L : Nat) (xs : Nat → Int32) (q : Nat) (h1 : 33 ≤ q) (h2 : q ≤ 63) : s_G0 L xs q = mQ s_v0 s_a0 q := by
  have h : q = 33 ∨ q = 34 ∨ q = 35 ∨ q = 36 ∨ q = 37 ∨ q = 38 ∨ q = 39 ∨ q = 40 ∨ q = 41 ∨ q = 42 ∨ q = 43 ∨ q = 44 ∨ q = 45 ∨ q = 46 ∨ q = 47 ∨ q = 48 ∨ q = 49 ∨ q = 50 ∨ q = 51 ∨ q = 52 ∨ q = 53 ∨ q = 54 ∨ q = 55 ∨ q = 56 ∨ q = 57 ∨ q = 58 ∨ q = 59 ∨ q = 60 ∨ q = 61 ∨ q = 62 ∨ q = 63 := by omega
  rcases h with rfl | rfl | rfl | rfl | rfl | rfl | rfl | rfl | rfl | rfl | rfl | rfl | rfl | rfl | rfl | rfl | rfl | rfl | rfl | rfl | rfl | rfl | rfl | rfl | rfl | rfl | rfl | rfl | rfl | rfl | rfl <;> rfl
theorem s_mI0 : mI s_v0 s_a0 := ⟨⟨by decide, by decide⟩, ⟨0, by decide, rfl, fun ci hi => by omega⟩, Or.inl rfl⟩
theorem s_TH0 (L : Nat) (xs : Nat → Int32) : q_TH 65 (s_G0 L xs) := by
  intro p h5 hp
  have h : p = 5 ∨ p = 6 ∨ p = 7 ∨ p = 8 ∨ p = 9 ∨ p = 10 ∨ p = 11 ∨ p = 12 ∨ p = 13 ∨ p = 14 ∨ p = 15 ∨ p = 16 ∨ p = 17 ∨ p = 18 ∨ p = 19 ∨ p = 20 ∨ p = 21 ∨ p = 22 ∨ p = 23 ∨ p = 24 ∨ p = 25 ∨ p = 26 ∨ p = 27 ∨ p = 28 ∨ p = 29 ∨ p = 30 ∨ p = 31 ∨ p = 32 ∨ p = 33 ∨ p = 34 ∨ p = 35 ∨ p = 36 ∨ p = 37 ∨ p = 38 ∨ p = 39 ∨ p = 40 ∨ p = 41 ∨ p = 42 ∨ p = 43 ∨ p = 44 ∨ p = 45 ∨ p = 46 ∨ p = 47 ∨ p = 48 ∨ p = 49 ∨ p = 50 ∨ p = 51 ∨ p = 52 ∨ p = 53 ∨ p = 54 ∨ p = 55 ∨ p = 56 ∨ p = 57 ∨ p = 58 ∨ p = 59 ∨ p = 60 ∨ p = 61 ∨ p = 62 ∨ p = 63 ∨ p = 64 := by omega
  rcases h with rfl | rfl | rfl | rfl | rfl | rfl | rfl | rfl | rfl | rfl | rfl | rfl | rfl | rfl | rfl | rfl | rfl | rfl | rfl | rfl | rfl | rfl | rfl | rfl | rfl | rfl | rfl | rfl | rfl | rfl | rfl | rfl | rfl | rfl | rfl | rfl | rfl | rfl | rfl | rfl | rfl | rfl | rfl | rfl | rfl | rfl | rfl | rfl | rfl | rfl | rfl | rfl | rfl | rfl | rfl | rfl | rfl | rfl | rfl | rfl
  · exact q_ok.ot (by decide) (by decide) (by decide)
  · exact q_ok.ot (by decide) (by decide) (by decide)
  · exact q_ok.b
  · exact q_ok.ot (by decide) (by decide) (by decide)
  · exact q_ok.ot (by decide) (by decide) (by decide)
  · exact q_ok.ot (by decide) (by decide) (by decide)
  · exact q_ok.ot (by decide) (by decide) (by decide)
  · exact q_ok.ot (by decide) (by decide) (by decide)
  · exact q_ok.ot (by decide) (by decide) (by decide)
  · exact q_ok.a6 (fun _ => q_oo.none)
  · exact q_ok.a6 (fun _ => q_oo.none)
  · exact q_ok.a6 (fun _ => q_oo.none)
  · exact q_ok.a (by decide) (by decide)
  · exact q_ok.R ⟨0, rfl, by decide, ⟨_, rfl⟩, by decide, by decide, fun i hi => absurd hi (by show ¬ (i : Int) < 0; omega)⟩
  · exact q_ok.a7 (fun _ y e => by cases e)
  · exact q_ok.R ⟨0, rfl, by decide, ⟨_, rfl⟩, by decide, by decide, fun i hi => absurd hi (by show ¬ (i : Int) < 0; omega)⟩
  · exact q_ok.a7 (fun _ y e => by cases e)
  · exact q_ok.a6 (fun _ => q_oo.none)
  · exact q_ok.R ⟨0, rfl, by decide, ⟨_, rfl⟩, by decide, by decide, fun i hi => absurd hi (by show ¬ (i : Int) < 0; omega)⟩
  · exact q_ok.a7 (fun _ y e => by cases e)
  · exact q_ok.R ⟨0, rfl, by decide, ⟨_, rfl⟩, by decide, by decide, fun i hi => absurd hi (by show ¬ (i : Int) < 0; omega)⟩
  · exact q_ok.a7 (fun _ y e => by cases e)
  · exact q_ok.R ⟨0, rfl, by decide, ⟨_, rfl⟩, by decide, by decide, fun i hi => absurd hi (by show ¬ (i : Int) < 0; omega)⟩
  · exact q_ok.a7 (fun _ y e => by cases e)
  · exact q_ok.R ⟨0, rfl, by decide, ⟨_, rfl⟩, by decide, by decide, fun i hi => absurd hi (by show ¬ (i : Int) < 0; omega)⟩
  · exact q_ok.a7 (fun _ y e => by cases e)
  · exact q_ok.ot (by decide) (by decide) (by decide)
  · exact q_ok.b
  · exact q_ok.ot (by decide) (by decide) (by decide)
  · exact q_ok.b
  · exact q_ok.b
  · exact q_ok.b
  · exact q_ok.b
  · exact q_ok.b
  · exact q_ok.b
  · exact q_ok.b
  · exact q_ok.b
  · exact q_ok.b
  · exact q_ok.b
  · exact q_ok.b
  · exact q_ok.b
  · exact q_ok.b
  · exact q_ok.b
  · exact q_ok.b
  · exact q_ok.b
  · exact q_ok.b
  · exact q_ok.b
  · exact q_ok.b
  · exact q_ok.b
  · exact q_ok.b
  · exact q_ok.b
  · exact q_ok.b
  · exact q_ok.b
  · exact q_ok.b
  · exact q_ok.b
  · exact q_ok.b
  · exact q_ok.b
  · exact q_ok.b
  · exact q_ok.b
  · exact ⟨fun gs e => (by cases e), fun gs e => (by cases e), fun gs e => (by cases e), fun n f e => (by cases e), fun n f e => (by cases e)⟩
theorem s_Z0 (L : Nat) (xs : Nat → Int32) : q_Z 65 (s_G0 L xs) := by
  refine ⟨by decide, ⟨0, rfl⟩, ⟨⟨_, rfl⟩, ⟨_, rfl⟩, ⟨_, rfl⟩⟩, fun p ci h => ?_, fun p t n h => ?_⟩
  · unfold q_tg at h
    repeat' split at h
    all_goals first | (cases h; done) | skip
    all_goals rename_i hp
    all_goals first | (subst hp; cases h; exact ⟨_, rfl⟩) | (cases h; rcases hp with rfl | rfl | rfl | rfl | rfl | rfl <;> exact ⟨_, rfl⟩)
  · unfold q_ta at h
    repeat' split at h
    all_goals first | (cases h; done) | skip
    all_goals rename_i hp
    all_goals (subst hp; cases h; exact ⟨_, rfl⟩)
def s_F0 (q : Nat) : Prop := q = 1
set_option maxRecDepth 4000 in
theorem s_cI0 (L : Nat) (xs : Nat → Int32) : q_cI 65 (s_G0 L xs) s_F0 (fun _ => 0) 0 0 16 := by
  have hn : q_nI 65 (s_G0 L xs) 0 0 0 0 0 := by
    refine ⟨⟨s_TH0 L xs, s_Z0 L xs, ⟨0, 0, none, none, rfl, by decide, by decide, by decide, by decide, fun i hi => absurd hi (by show ¬ (i : Int) < 0; omega), q_oo.none, q_oo.none⟩, ⟨0, none, rfl, fun u k h1 h2 h3 => absurd (q_bit0 h1 h2) h3, q_oo.none⟩, ⟨0, 0, 0, 0, 1, 0, 0, fun _ => none, rfl, rfl, rfl, rfl, by decide, by decide, by decide, rfl, fun i hi => by omega, by decide, by decide, Or.inl ⟨rfl, rfl⟩, rfl⟩⟩, ⟨0, 0, rfl⟩, ⟨_, rfl, fun i hi => ?_⟩, rfl, by decide⟩
    match i, hi with
    | 0, _ => rfl
    | 1, _ => rfl
    | 2, _ => rfl
    | 3, _ => rfl
  have hI : q_rI 65 (s_G0 L xs) 0 0 0 := ⟨0, hn, by decide, by decide, by decide⟩
  have hB : q_B 65 (s_G0 L xs) 16 0 := ⟨32, 0, 0, fun _ => 0, rfl, rfl, by decide, by decide, rfl, fun _ => rfl, by decide, by decide, by decide⟩
  have nX : ∀ q, q ≠ 31 → q ≠ 32 → ¬ q_X (s_G0 L xs) q := fun q h1 h2 z => by
    rcases z with z | ⟨b, x, y, w, z, zq⟩
    · exact h1 z
    · have e : s_G0 L xs 31 = oC 14 [.ref 32, .int 0, .int 0, .int 0] := rfl
      have := (oC_inj (e.symm.trans z)).2
      cases this
      exact h2 zq
  have nV1 : ¬ q_V (s_G0 L xs) 1 := fun z => by
    have e : s_G0 L xs 1 = aC 4 0 (fun _ => none) := rfl
    rcases z with (y | ⟨y1, y2, y3, y4, y5⟩ | ⟨gs, y⟩ | ⟨g, y⟩) | y | y | ⟨gs, y⟩ | ⟨g, y⟩
    · omega
    · exact y5.2 rfl
    · exact oa_ne (y.symm.trans e)
    · exact absurd (aC_inj (y.symm.trans e)).1 (by decide)
    · omega
    · omega
    · exact oa_ne (y.symm.trans e)
    · exact absurd (aC_inj (y.symm.trans e)).1 (by decide)
  refine ⟨0, 0, 0, 16, 0, 1, 0, -1, 0, 0, fun _ => none, ⟨hI, hB, ⟨0, 0, rfl, rfl, by decide, rfl⟩, rfl, ⟨rfl, rfl, by decide, by decide, rfl, by decide, by decide, Or.inl ⟨rfl, rfl⟩, fun i hi => by omega, nV1, nX 1 (by decide) (by decide)⟩, fun q z => ?_, rfl, fun q z => ⟨fun y => ?_, nX q (by unfold q_rs at z; omega) (by unfold q_rs at z; omega)⟩, fun q z => ?_⟩, rfl⟩
  · have : q = 1 := z
    subst this
    exact ⟨by decide, nV1, nX 1 (by decide) (by decide), by decide, by decide, by decide, by decide, fun _ => rfl⟩
  · have hsh : (∃ fs, s_G0 L xs q = oC 12 fs) ∨ (∃ t k, ∃ f : Nat → Int32, s_G0 L xs q = .inl (t, (k, .inl f))) ∨ (∃ g : Nat → Int64, s_G0 L xs q = .inl (3, (1, .inr (.inl g)))) := by
      rcases z with z | z
      · rw [z]
        exact Or.inr (Or.inl ⟨_, _, _, rfl⟩)
      · by_cases w : q = 64
        · rw [w]
          exact Or.inr (Or.inr ⟨_, rfl⟩)
        · rw [s_ref0 L xs q z.1 (by omega)]
          rcases mQ_sh s_v0 s_v0 s_a0 s_a0 q z.1 (by omega) with ⟨fs, fs1, e1, e2⟩ | ⟨t, k, g, g1, ht, e1, e2⟩
          · exact Or.inl ⟨fs, e1⟩
          · exact Or.inr (Or.inl ⟨t, k, g, e1⟩)
    have hqq : ¬ (9 ≤ q ∧ q ≤ 30) ∧ q ≠ 1 := by
      unfold q_rs at z
      omega
    rcases y with (y | ⟨y1, y2, y3, y4, y5⟩ | ⟨gs, y⟩ | ⟨g, y⟩) | y | y | ⟨gs, y⟩ | ⟨g, y⟩
    · omega
    · have e12 : s_G0 L xs 12 = oC 13 [.ref 1, .int 0, .int 0] := rfl
      have := (oC_inj (e12.symm.trans y4)).2
      cases this
      omega
    · rw [y] at hsh
      rcases hsh with ⟨fs, w⟩ | ⟨t, k, f, w⟩ | ⟨g, w⟩
      · exact absurd (oC_inj w).1 (by decide)
      · cases w
      · cases w
    · rw [y] at hsh
      rcases hsh with ⟨fs, w⟩ | ⟨t, k, f, w⟩ | ⟨g, w⟩
      · exact oa_ne w.symm
      · cases w
      · cases w
    · omega
    · omega
    · rw [y] at hsh
      rcases hsh with ⟨fs, w⟩ | ⟨t, k, f, w⟩ | ⟨g, w⟩
      · exact absurd (oC_inj w).1 (by decide)
      · cases w
      · cases w
    · rw [y] at hsh
      rcases hsh with ⟨fs, w⟩ | ⟨t, k, f, w⟩ | ⟨g, w⟩
      · exact oa_ne w.symm
      · cases w
      · cases w
  · have : q = 1 := z
    omega
