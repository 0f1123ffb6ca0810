/-! THE INVARIANT between two calls, and how it is kept -/
/-- places that the class never writes: the script, the reference, the law's array -/
def q_rs (q : Nat) : Prop := q = 0 ∨ (33 ≤ q ∧ q ≤ 64)
def q_Fo (F : Nat → Prop) (N : Nat) (G : Nat → sx_C) (a : Nat) : Prop := (∀ q, F q → q < N ∧ ¬ q_V G q ∧ ¬ q_X G q ∧ q ≠ 5 ∧ q ≠ 6 ∧ q ≠ 7 ∧ q ≠ 8 ∧ (q = a → a = 1)) ∧ F 1 ∧ (∀ q, q_rs q → ¬ q_V G q ∧ ¬ q_X G q) ∧ (∀ q, F q → q < 33 ∨ 64 < q)
/-- the list of CLAUSES -/
def q_C8 (F : Nat → Prop) (N : Nat) (G : Nat → sx_C) (s a nn : Nat) (sz m : Int32) (f : Nat → Option Nat) : Prop := G 8 = oC 13 [.ref a, .int sz, .int m] ∧ sz.toInt = (s : Int) ∧ s ≤ 12 ∧ a < N ∧ G a = aC 4 nn f ∧ s ≤ nn ∧ nn ≤ 40 ∧ ((a = 1 ∧ nn = 0) ∨ (64 < a ∧ 10 ≤ nn)) ∧ (∀ i, i < s → ∃ q, f i = some q ∧ q_Cl F N G q) ∧ ¬ q_V G a ∧ ¬ q_X G a
def q_cJ (N : Nat) (G : Nat → sx_C) (F : Nat → Prop) (T : Nat → Int32) (n s u c mk nb cnt a nn : Nat) (pl sz m : Int32) (f : Nat → Option Nat) : Prop := q_rI N G u c mk ∧ q_B N G nb cnt ∧ q_r0 G T n ∧ G 5 = oC 0 [.ref 6, .int pl, .ref 8, .ref 9, .ref 31] ∧ q_C8 F N G s a nn sz m f ∧ q_Fo F N G a
def q_cI (N : Nat) (G : Nat → sx_C) (F : Nat → Prop) (T : Nat → Int32) (n s P : Nat) : Prop := ∃ (u c mk nb cnt a nn : Nat) (pl sz m : Int32) (f : Nat → Option Nat), q_cJ N G F T n s u c mk nb cnt a nn pl sz m f ∧ P = c + 3 * mk + nb + nn
/-- a cell that none of the Network's or the spelling's writes reaches -/
def q_xc (c : sx_C) : Prop := q_fc c ∨ ∃ j, c = .inr (.inr j)
section QCI
variable {F F1 : Nat → Prop} {T T1 : Nat → Int32} {N N1 n n1 s s1 u c mk nb cnt p p1 a nn a1 nn1 u1 c1 mk1 nb1 cnt1 P : Nat} {G G1 : Nat → sx_C} {pl sz m pl1 sz1 m1 : Int32} {f f1 : Nat → Option Nat}
theorem q_xc.ok {c : sx_C} {p : Nat} (h : q_xc c) : q_ok N G p c := by
  rcases h with (⟨ci, fs, e, h⟩ | ⟨t, n, f, e, h⟩) | ⟨j, e⟩
  · rw [e]
    exact q_ok.ot (by omega) (by omega) (by omega)
  · rw [e]
    exact q_ok.a (by omega) (by omega)
  · rw [e]
    exact q_ok.ex
theorem q_xc.nt {c : sx_C} (h : q_xc c) : (∀ fs, c ≠ oC 10 fs) ∧ (∀ fs, c ≠ oC 11 fs) ∧ (∀ k f, c ≠ aC 6 k f) ∧ (∀ k (f : Nat → Int32), c ≠ .inl (1, (k, .inl f))) := by
  rcases h with (⟨ci, fs, e, h⟩ | ⟨t, n, f, e, h⟩) | ⟨j, e⟩
  · rw [e]
    exact ⟨fun fs q => (by have := (oC_inj q).1; omega), fun fs q => (by have := (oC_inj q).1; omega), fun k f q => oa_ne q, fun k f q => (by cases q)⟩
  · rw [e]
    exact ⟨fun fs q => oa_ne q.symm, fun fs q => oa_ne q.symm, fun k f q => (by have := (aC_inj q).1; omega), fun k f q => (by cases q)⟩
  · rw [e]
    exact ⟨fun fs q => (by cases q), fun fs q => (by cases q), fun k f q => (by cases q), fun k f q => (by cases q)⟩
theorem q_rI.gen (h : q_rI N G u c mk) (sl : q_sl N G N1 G1) (e : ∀ p, 9 ≤ p → p ≤ 13 → G1 p = G p) (e17 : G1 17 = G 17) (er : ∀ p, q_row p → G1 p = G p) (ea : ∀ (a : Nat) (z m : Value), G 12 = oC 13 [.ref a, z, m] → G1 a = G a) (hc : ∀ p, 5 ≤ p → p < N1 → (p < N ∧ G1 p = G p) ∨ q_ok N1 G1 p (G1 p)) : q_rI N1 G1 u c mk := by
  obtain ⟨sp, hn, hr⟩ := h
  exact ⟨sp, ⟨⟨hn.1.1.gen sl hc, hn.1.2.1.sl sl, hn.1.2.2.1.fr sl (e 13 (by omega) (by omega)), hn.1.2.2.2.1.fr sl (e 10 (by omega) (by omega)), hn.1.2.2.2.2.fr sl (e 11 (by omega) (by omega)) (e 12 (by omega) (by omega)) ea⟩, hn.2.fr (e 9 (by omega) (by omega)) e17 er⟩, hr⟩
theorem q_V.of (h12 : G1 12 = G 12) (hp : G1 p = G p) (h : q_V G1 p) : q_V G p := by
  rcases h with (h | ⟨a, s, m, h, q⟩ | ⟨fs, h⟩ | ⟨f, h⟩) | h | h | ⟨fs, h⟩ | ⟨f, h⟩
  · exact Or.inl (Or.inl h)
  · exact Or.inl (Or.inr (Or.inl ⟨a, s, m, h12.symm.trans h, q⟩))
  · exact Or.inl (Or.inr (Or.inr (Or.inl ⟨fs, hp.symm.trans h⟩)))
  · exact Or.inl (Or.inr (Or.inr (Or.inr ⟨f, hp.symm.trans h⟩)))
  · exact Or.inr (Or.inl h)
  · exact Or.inr (Or.inr (Or.inl h))
  · exact Or.inr (Or.inr (Or.inr (Or.inl ⟨fs, hp.symm.trans h⟩)))
  · exact Or.inr (Or.inr (Or.inr (Or.inr ⟨f, hp.symm.trans h⟩)))
theorem q_X.of (h31 : G1 31 = G 31) (h : q_X G1 p) : q_X G p := by
  rcases h with h | ⟨b, x, y, z, h, q⟩
  · exact Or.inl h
  · exact Or.inr ⟨b, x, y, z, h31.symm.trans h, q⟩
/-- a place of one thing, not the Network's -/
theorem q_rI.nV (h : q_rI N G u c mk) {ci : Nat} (e : q_tg p = some ci) (h10 : ci ≠ 10) (h11 : ci ≠ 11) (hp : p < 9 ∨ 30 < p) : ¬ q_V G p := by
  obtain ⟨sp, hn, -⟩ := h
  obtain ⟨gs, eg⟩ := hn.1.2.1.oj p ci e
  intro q
  rcases q with q | q | q | ⟨fs, q⟩ | ⟨f, q⟩
  · exact hn.1.nUo e h10 (by omega) q
  · omega
  · omega
  · exact h11 (oC_inj (eg.symm.trans q)).1
  · exact oa_ne (eg.symm.trans q)
theorem q_rI.nVb (h : q_rI N G u c mk) {k : Nat} {fb : Nat → Int32} (e : G p = .inl (1, (k, .inl fb))) (hp : p < 9 ∨ 30 < p) : ¬ q_V G p := by
  obtain ⟨sp, hn, -⟩ := h
  intro q
  rcases q with (q | ⟨a, s, m, g, q⟩ | ⟨fs, q⟩ | ⟨f, q⟩) | q | q | ⟨fs, q⟩ | ⟨f, q⟩
  · omega
  · obtain ⟨n, f, g1, -⟩ := hn.1.2.2.2.2.a4 g
    rw [← q.1, e] at g1
    cases g1
  · rw [e] at q
    cases q
  · rw [e] at q
    cases q
  · omega
  · omega
  · rw [e] at q
    cases q
  · rw [e] at q
    cases q
/-- the Network's STEPS keep the rest -/
theorem q_cJ.nr (h : q_cJ N G F T n s u c mk nb cnt a nn pl sz m f) (h1 : q_rI N1 G1 u1 c1 mk1) (r : q_NR N G N1 G1) : q_cJ N1 G1 F T n s u1 c1 mk1 nb cnt a nn pl sz m f ∧ (∀ q, q_rs q → G1 q = G q) := by
  obtain ⟨hI, ⟨b, ml, ct, fb, b1, b2, b3, b4, b5, b6, b7, b8, b9⟩, ⟨ln, at_, d1, d2, d5, d6⟩, e5, ⟨k1, k2, k3, k4, k5, k6, k7, k8, k9, k10, k11⟩, f1, f2, f3, f4⟩ := h
  have h64 := hI.Z.2.1
  have hN := r.1.1
  have un : ∀ q, q < N → ¬ q_V G q → G1 q = G q := r.2.1
  have u31 : G1 31 = G 31 := un 31 (by omega) (hI.nV rfl (by decide) (by decide) (by decide))
  have uF : ∀ q, F q → G1 q = G q := fun q z => un q (f1 q z).1 (f1 q z).2.1
  have nX : ∀ q, ¬ q_X G q → ¬ q_X G1 q := fun q z y => z (y.of u31)
  refine ⟨⟨h1, ⟨b, ml, ct, fb, u31.trans b1, b2, b3, by omega, (un b b4 (hI.nVb b5 (by omega))).trans b5, b6, b7, b8, b9⟩, ⟨ln, at_, (un 6 (by omega) (hI.nV rfl (by decide) (by decide) (by decide))).trans d1, d2, d5, (un 7 (by omega) (hI.nVb d6 (by decide))).trans d6⟩, (un 5 (by omega) (hI.nV rfl (by decide) (by decide) (by decide))).trans e5, ⟨(un 8 (by omega) (hI.nV rfl (by decide) (by decide) (by decide))).trans k1, k2, k3, by omega, (un a k4 k10).trans k5, k6, k7, k8, fun i hi => ?_, fun z => k10 (r.2.2 a k4 z), nX a k11⟩, fun q z => ?_, f2, fun q z => ⟨fun y => (f3 q z).1 (r.2.2 q (by unfold q_rs at z; omega) y), nX q (f3 q z).2⟩, f4⟩, fun q z => un q (by unfold q_rs at z; omega) (f3 q z).1⟩
  · obtain ⟨q, z1, z2⟩ := k9 i hi
    exact ⟨q, z1, z2.fr hN (fun _ z => z) uF⟩
  · obtain ⟨y1, y2, y3, y4⟩ := f1 q z
    exact ⟨by omega, fun w => y2 (r.2.2 q y1 w), nX q y3, y4⟩
/-- the spelling keeps the rest -/
theorem q_cJ.lr (h : q_cJ N G F T n s u c mk nb cnt a nn pl sz m f) (h1 : q_lI N1 G1 u c mk nb1 cnt1) (r : q_LR N G N1 G1) : q_cJ N1 G1 F T n s u c mk nb1 cnt1 a nn pl sz m f ∧ (∀ q, q_rs q → G1 q = G q) := by
  obtain ⟨hI, hB, ⟨ln, at_, d1, d2, d5, d6⟩, e5, ⟨k1, k2, k3, k4, k5, k6, k7, k8, k9, k10, k11⟩, f1, f2, f3, f4⟩ := h
  have h64 := hI.Z.2.1
  have hN := r.1.1
  have un : ∀ q, q < N → ¬ q_X G q → G1 q = G q := r.2.1
  have uF : ∀ q, F q → G1 q = G q := fun q z => un q (f1 q z).1 (f1 q z).2.2.1
  have no : ∀ p ci, q_tg p = some ci → p ≠ 31 → ¬ q_X G p := fun p ci t z => hB.nX z (Or.inl ⟨ci, hI.Z.2.oj p ci t⟩)
  have u12 : G1 12 = G 12 := un 12 (by omega) (no 12 13 rfl (by decide))
  have n7 : ¬ q_X G 7 := fun z => by
    obtain ⟨b, ml, ct, fb, b1, b2, b3, -⟩ := hB
    rcases z with z | ⟨b2, x, y, z, q1, q2⟩
    · omega
    · have := (oC_inj (b1.symm.trans q1)).2
      cases this
      omega
  refine ⟨⟨h1.1, h1.2, ⟨ln, at_, (un 6 (by omega) (no 6 1 rfl (by decide))).trans d1, d2, d5, (un 7 (by omega) n7).trans d6⟩, (un 5 (by omega) (no 5 0 rfl (by decide))).trans e5, ⟨(un 8 (by omega) (no 8 13 rfl (by decide))).trans k1, k2, k3, by omega, (un a k4 k11).trans k5, k6, k7, k8, fun i hi => ?_, fun z => k10 (z.of u12 (un a k4 k11)), fun z => k11 (r.2.2 a k4 z)⟩, fun q z => ?_, f2, fun q z => ⟨fun y => (f3 q z).1 (y.of u12 (un q (by unfold q_rs at z; omega) (f3 q z).2)), fun y => (f3 q z).2 (r.2.2 q (by unfold q_rs at z; omega) y)⟩, f4⟩, fun q z => un q (by unfold q_rs at z; omega) (f3 q z).2⟩
  · obtain ⟨q, z1, z2⟩ := k9 i hi
    exact ⟨q, z1, z2.fr hN (fun _ z => z) uF⟩
  · obtain ⟨y1, y2, y3, y4⟩ := f1 q z
    exact ⟨by omega, fun w => y2 (w.of u12 (uF q z)), fun w => y3 (r.2.2 q y1 w), y4⟩
/-- what the text, the list of CLAUSES and the reading change -/
theorem q_cJ.any (h : q_cJ N G F T n s u c mk nb cnt a nn pl sz m f) (hN : N ≤ N1) (e : ∀ q, q < N → q ≠ 5 → q ≠ 6 → q ≠ 7 → q ≠ 8 → (q = a → a = 1) → G1 q = G q) (hx : ∀ q, N ≤ q → q < N1 → q_xc (G1 q)) (e5 : G1 5 = oC 0 [.ref 6, .int pl1, .ref 8, .ref 9, .ref 31]) (hrd : q_r0 G1 T1 n1) (k1 : G1 8 = oC 13 [.ref a1, .int sz1, .int m1]) (k2 : sz1.toInt = (s1 : Int)) (k3 : s1 ≤ 12) (k4 : a1 < N1) (k5 : G1 a1 = aC 4 nn1 f1) (k6 : s1 ≤ nn1) (k7 : nn1 ≤ 40) (k8 : (a1 = 1 ∧ nn1 = 0) ∨ (64 < a1 ∧ 10 ≤ nn1)) (ka : a1 = a ∨ N ≤ a1) (kb : ∃ fb, G1 a = aC 4 nn fb)
    (hF : ∀ q, F1 q → F q ∨ (N ≤ q ∧ q < N1 ∧ q ≠ a1)) (hF' : ∀ q, F q → F1 q) (k9 : ∀ i, i < s1 → ∃ q, f1 i = some q ∧ q_Cl F1 N1 G1 q) : q_cJ N1 G1 F1 T1 n1 s1 u c mk nb cnt a1 nn1 pl1 sz1 m1 f1 ∧ (∀ q, q_rs q → G1 q = G q) := by
  obtain ⟨hI, ⟨b, ml, ct, fb, b1, b2, b3, b4, b5, b6, b7, b8, b9⟩, ⟨ln, at_, d1, d2, d5, d6⟩, g5, ⟨j1, j2, j3, j4, j5, j6, j7, j8, j9, j10, j11⟩, f1', f2, f3, f4⟩ := h
  have h64 := hI.Z.2.1
  obtain ⟨ln1, at1, c1', c2', c5', c6'⟩ := id hrd
  have ao : ∀ q ci, q_tg q = some ci → q ≠ a := fun q ci t z => by
    obtain ⟨fs, g⟩ := hI.Z.2.oj q ci t
    rw [z, j5] at g
    exact oa_ne g.symm
  have a17 : 17 ≠ a := fun z => by
    obtain ⟨fs, g⟩ := hI.Z.2.a 17 5 4 rfl
    rw [z, j5] at g
    exact absurd (aC_inj g).1 (by decide)
  have ab : b ≠ a := fun z => by
    rw [z, j5] at b5
    cases b5
  have u31 : G1 31 = G 31 := e 31 (by omega) (by decide) (by decide) (by decide) (by decide) (fun z => absurd z (ao 31 14 rfl))
  have u12 : G1 12 = G 12 := e 12 (by omega) (by decide) (by decide) (by decide) (by decide) (fun z => absurd z (ao 12 13 rfl))
  have uF : ∀ q, F q → G1 q = G q := fun q z => by
    obtain ⟨y1, y2, y3, y4, y5, y6, y7, y8⟩ := f1' q z
    exact e q y1 y4 y5 y6 y7 y8
  have ur : ∀ q, q_rs q → G1 q = G q := fun q z => by
    unfold q_rs at z
    exact e q (by omega) (by omega) (by omega) (by omega) (by omega) (fun w => by omega)
  obtain ⟨fb', kb⟩ := kb
  have sl : q_sl N G N1 G1 := by
    refine ⟨hN, fun q hq => ?_⟩
    by_cases q5 : q = 5
    · rw [q5, e5]
      exact q_le.ob g5 (by decide)
    by_cases q6 : q = 6
    · rw [q6, c1']
      exact q_le.ob d1 (by decide)
    by_cases q7 : q = 7
    · rw [q7, c6']
      exact q_le.b d6
    by_cases q8 : q = 8
    · rw [q8, k1]
      exact q_le.ob j1 (by decide)
    by_cases qa : q = a
    · rw [qa, kb]
      exact q_le.a4 j5 (Or.inl (by decide))
    · rw [e q hq q5 q6 q7 q8 (fun z => absurd z qa)]
      exact q_le.rfl'
  have hI1 : q_rI N1 G1 u c mk := by
    refine hI.gen sl (fun q q1 q2 => ?_) (e 17 (by omega) (by decide) (by decide) (by decide) (by decide) (fun z => absurd z a17)) (fun q hq => e q (by have := hq.le; omega) (by have := hq.le; omega) (by have := hq.le; omega) (by have := hq.le; omega) (by have := hq.le; omega) (fun z => absurd z (ao q 6 hq.tg))) (fun x z w ex => ?_) (fun q q5 hq => ?_)
    · have hq : q = 9 ∨ q = 10 ∨ q = 11 ∨ q = 12 ∨ q = 13 := by omega
      rcases hq with rfl | rfl | rfl | rfl | rfl
      · exact e 9 (by omega) (by decide) (by decide) (by decide) (by decide) (fun z => absurd z (ao 9 2 rfl))
      · exact e 10 (by omega) (by decide) (by decide) (by decide) (by decide) (fun z => absurd z (ao 10 3 rfl))
      · exact e 11 (by omega) (by decide) (by decide) (by decide) (by decide) (fun z => absurd z (ao 11 4 rfl))
      · exact u12
      · exact e 13 (by omega) (by decide) (by decide) (by decide) (by decide) (fun z => absurd z (ao 13 5 rfl))
    · obtain ⟨sp, hn, -⟩ := hI
      obtain ⟨nx, fx, x1, x2⟩ := hn.1.2.2.2.2.a4 ex
      have no : ∀ q ci, q_tg q = some ci → x ≠ q := fun q ci t z => by
        obtain ⟨fs, g⟩ := hn.1.2.1.oj q ci t
        rw [← z, x1] at g
        exact oa_ne g.symm
      refine e x x2 (no 5 0 rfl) (no 6 1 rfl) (fun z => ?_) (no 8 13 rfl) (fun z => ?_)
      · rw [z, d6] at x1
        cases x1
      · by_cases a1' : a = 1
        · exact a1'
        · exact absurd (Or.inl (Or.inr (Or.inl ⟨x, _, _, ex, z.symm, a1'⟩))) j10
    · by_cases hq' : q < N
      · by_cases z5 : q = 5
        · rw [z5, e5]
          exact Or.inr (q_ok.ot (by decide) (by decide) (by decide))
        by_cases z6 : q = 6
        · rw [z6, c1']
          exact Or.inr (q_ok.ot (by decide) (by decide) (by decide))
        by_cases z7 : q = 7
        · rw [z7, c6']
          exact Or.inr q_ok.b
        by_cases z8 : q = 8
        · rw [z8, k1]
          exact Or.inr (q_ok.ot (by decide) (by decide) (by decide))
        by_cases za : q = a
        · rw [za, kb]
          exact Or.inr (q_ok.a (by decide) (by decide))
        · exact Or.inl ⟨hq', e q hq' z5 z6 z7 z8 (fun z => absurd z za)⟩
      · exact Or.inr (hx q (by omega) hq).ok
  have nX : ∀ q, ¬ q_X G q → ¬ q_X G1 q := fun q z y => z (y.of u31)
  have newV : ∀ q, N ≤ q → q < N1 → ¬ q_V G1 q ∧ ¬ q_X G1 q := by
    intro q q1 q2
    obtain ⟨w1, w2, w3, w4⟩ := (hx q q1 q2).nt
    refine ⟨fun z => ?_, fun z => ?_⟩
    · obtain ⟨sp, hn, -⟩ := hI
      rcases z with (z | ⟨x, y, w, z, y1, y2⟩ | ⟨fs, z⟩ | ⟨f, z⟩) | z | z | ⟨fs, z⟩ | ⟨f, z⟩
      · omega
      · obtain ⟨nx, fx, x1, x2⟩ := hn.1.2.2.2.2.a4 (u12.symm.trans z)
        omega
      · exact w1 fs z
      · exact w3 3 f z
      · omega
      · omega
      · exact w2 fs z
      · exact w3 12 f z
    · rcases z.of u31 with z | ⟨x, y, w, v, z, y1⟩
      · omega
      · have := (oC_inj (b1.symm.trans z)).2
        cases this
        omega
  refine ⟨⟨hI1, ⟨b, ml, ct, fb, u31.trans b1, b2, b3, by omega, (e b b4 (by omega) (by omega) (by omega) (by omega) (fun z => absurd z ab)).trans b5, b6, b7, b8, b9⟩, hrd, e5, ⟨k1, k2, k3, k4, k5, k6, k7, k8, k9, ?_, ?_⟩, fun q z => ?_, hF' 1 f2, fun q z => ⟨fun y => (f3 q z).1 (y.of u12 (ur q z)), nX q (f3 q z).2⟩, fun q z => ?_⟩, ur⟩
  · intro z
    rcases ka with ka | ka
    · by_cases a1' : a = 1
      · rw [ka] at z
        exact j10 (z.of u12 (e a j4 (by omega) (by omega) (by omega) (by omega) (fun _ => a1')))
      · rw [ka] at z
        rcases z with (z | ⟨x, y, w, z, y1⟩ | ⟨fs, z⟩ | ⟨f, z⟩) | z | z | ⟨fs, z⟩ | ⟨f, z⟩
        · exact j10 (Or.inl (Or.inl z))
        · exact j10 (Or.inl (Or.inr (Or.inl ⟨x, y, w, u12.symm.trans z, y1⟩)))
        · exact oa_ne (z.symm.trans kb)
        · exact absurd (aC_inj (z.symm.trans kb)).1 (by decide)
        · exact j10 (Or.inr (Or.inl z))
        · exact j10 (Or.inr (Or.inr (Or.inl z)))
        · exact oa_ne (z.symm.trans kb)
        · exact absurd (aC_inj (z.symm.trans kb)).1 (by decide)
    · exact (newV a1 ka k4).1 z
  · rcases ka with ka | ka
    · rw [ka]
      exact nX a j11
    · exact (newV a1 ka k4).2
  · rcases hF q z with z | ⟨z1, z2, z3⟩
    · obtain ⟨y1, y2, y3, y4, y5, y6, y7, y8⟩ := f1' q z
      refine ⟨by omega, fun w => y2 (w.of u12 (uF q z)), nX q y3, y4, y5, y6, y7, fun w => ?_⟩
      rcases ka with ka | ka
      · rw [ka] at w ⊢
        exact y8 w
      · omega
    · obtain ⟨w1, w2⟩ := newV q z1 z2
      exact ⟨z2, w1, w2, by omega, by omega, by omega, by omega, fun w => absurd w z3⟩
  · rcases hF q z with z | ⟨z1, z2, z3⟩
    · exact f4 q z
    · exact Or.inr (by omega)
end QCI
