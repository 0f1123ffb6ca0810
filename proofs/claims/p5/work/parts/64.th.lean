/-! THE CLASS'S HEAP, TYPED: Nodes, Goals, Rows; cells keep their kinds, what is set stays set -/
abbrev oC (ci : Nat) (fs : List Value) : sx_C := .inr (.inl (ci, fs))
abbrev aC (t n : Nat) (f : Nat → Option Nat) : sx_C := .inl (t, (n, .inr (.inr (.inr (.inr f)))))
theorem oC_inj {a b : Nat} {fs gs : List Value} (h : oC a fs = oC b gs) : a = b ∧ fs = gs := by
  cases h
  exact ⟨rfl, rfl⟩
theorem aC_inj {t u n m : Nat} {f g : Nat → Option Nat} (h : aC t n f = aC u m g) : t = u ∧ n = m ∧ f = g := by
  cases h
  exact ⟨rfl, rfl, rfl⟩
theorem oa_ne {a t n : Nat} {fs : List Value} {f : Nat → Option Nat} (h : oC a fs = aC t n f) : False := by cases h
def q_ob (N : Nat) (G : Nat → sx_C) (p ci : Nat) : Prop := 5 ≤ p ∧ p < N ∧ ∃ fs, G p = oC ci fs
def q_oo (N : Nat) (G : Nat → sx_C) (ci : Nat) (o : Option Nat) : Prop := ∀ y, o = some y → q_ob N G y ci
def q_gl (fs : List Value) : Prop := fs.head? ≠ some (.int 0)
def q_og (N : Nat) (G : Nat → sx_C) (o : Option Nat) : Prop := ∀ y, o = some y → 5 ≤ y ∧ y < N ∧ ∃ fs, G y = oC 11 fs ∧ q_gl fs
def q_nn (N : Nat) (G : Nat → sx_C) (p i : Nat) : Prop := p ≠ 22 ∧ p < N ∧ ∃ (t n : Nat) (f : Nat → Option Nat) (y : Nat), G p = aC t n f ∧ (t = 6 ∨ t = 7) ∧ f i = some y
def q_le (p : Nat) (c c1 : sx_C) : Prop := (∀ ci fs, c = oC ci fs → ∃ fs1, c1 = oC ci fs1 ∧ (ci = 11 → q_gl fs → q_gl fs1)) ∧ (∀ t n f, c = aC t n f → ∃ f1, c1 = aC t n f1 ∧ (p ≠ 22 → t = 6 ∨ t = 7 → ∀ i y, f i = some y → ∃ y1, f1 i = some y1)) ∧ (∀ j, c = .inr (.inr j) → c1 = c) ∧ (∀ (t n : Nat) (f : Nat → Int32), c = .inl (t, (n, .inl f)) → ∃ f1 : Nat → Int32, c1 = .inl (t, (n, .inl f1)))
def q_sl (N : Nat) (G : Nat → sx_C) (N1 : Nat) (G1 : Nat → sx_C) : Prop := N ≤ N1 ∧ ∀ p, p < N → q_le p (G p) (G1 p)
section QH
variable {N N1 N2 p x i ci : Nat} {G G1 G2 : Nat → sx_C} {c c1 c2 : sx_C} {o : Option Nat}
theorem q_le.rfl' : q_le p c c := ⟨fun _ fs h => ⟨fs, h, fun _ q => q⟩, fun _ _ f h => ⟨f, h, fun _ _ _ y e => ⟨y, e⟩⟩, fun _ _ => rfl, fun _ _ f h => ⟨f, h⟩⟩
theorem q_le.trans (h : q_le p c c1) (g : q_le p c1 c2) : q_le p c c2 := by
  refine ⟨fun ci fs e => ?_, fun t n f e => ?_, fun j e => ?_, fun t n f e => ?_⟩
  · obtain ⟨f1, e1, q1⟩ := h.1 ci fs e
    obtain ⟨f2, e2, q2⟩ := g.1 ci f1 e1
    exact ⟨f2, e2, fun a b => q2 a (q1 a b)⟩
  · obtain ⟨f1, e1, q1⟩ := h.2.1 t n f e
    obtain ⟨f2, e2, q2⟩ := g.2.1 t n f1 e1
    refine ⟨f2, e2, fun a b i y e => ?_⟩
    obtain ⟨y1, e3⟩ := q1 a b i y e
    exact q2 a b i y1 e3
  · have h1 := h.2.2.1 j e
    have h2 := g.2.2.1 j (h1.trans e)
    exact h2.trans h1
  · obtain ⟨f1, e1⟩ := h.2.2.2 t n f e
    exact g.2.2.2 t n f1 e1
theorem q_sl.rfl' : q_sl N G N G := ⟨Nat.le_refl N, fun _ _ => q_le.rfl'⟩
theorem q_sl.trans (h : q_sl N G N1 G1) (g : q_sl N1 G1 N2 G2) : q_sl N G N2 G2 := ⟨Nat.le_trans h.1 g.1, fun p hp => (h.2 p hp).trans (g.2 p (Nat.lt_of_lt_of_le hp h.1))⟩
theorem q_sl.of (h : N ≤ N1) (e : ∀ p, p < N → G1 p = G p) : q_sl N G N1 G1 := ⟨h, fun p hp => by rw [e p hp]; exact q_le.rfl'⟩
theorem q_sl.up (hl : q_le x (G x) c) : q_sl N G N (va_up G x c) := by
  refine ⟨Nat.le_refl N, fun p hp => ?_⟩
  by_cases e : p = x
  · subst e
    rw [up_eq]
    exact hl
  · rw [va_ne e]
    exact q_le.rfl'
theorem q_ob.sl (h : q_ob N G p ci) (s : q_sl N G N1 G1) : q_ob N1 G1 p ci := by
  obtain ⟨h5, hp, fs, e⟩ := h
  obtain ⟨f1, e1, -⟩ := (s.2 p hp).1 ci fs e
  exact ⟨h5, Nat.lt_of_lt_of_le hp s.1, f1, e1⟩
theorem q_oo.sl (h : q_oo N G ci o) (s : q_sl N G N1 G1) : q_oo N1 G1 ci o := fun y e => (h y e).sl s
theorem q_oo.none : q_oo N G ci none := fun y e => by cases e
theorem q_oo.some {y : Nat} (h : q_ob N G y ci) : q_oo N G ci (some y) := fun z e => by cases e; exact h
theorem q_og.sl (h : q_og N G o) (s : q_sl N G N1 G1) : q_og N1 G1 o := by
  intro y e
  obtain ⟨h5, hp, fs, e1, g⟩ := h y e
  obtain ⟨f1, e2, q⟩ := (s.2 y hp).1 11 fs e1
  exact ⟨h5, Nat.lt_of_lt_of_le hp s.1, f1, e2, q rfl g⟩
theorem q_nn.sl (h : q_nn N G p i) (s : q_sl N G N1 G1) : q_nn N1 G1 p i := by
  obtain ⟨h2, hp, t, n, f, y, e, ht, ey⟩ := h
  obtain ⟨f1, e1, q⟩ := (s.2 p hp).2.1 t n f e
  obtain ⟨y1, e2⟩ := q h2 ht i y ey
  exact ⟨h2, Nat.lt_of_lt_of_le hp s.1, t, n, f1, y1, e1, ht, e2⟩
theorem q_sl.ar {t n : Nat} (s : q_sl N G N1 G1) (hp : p < N) (h : ∃ f, G p = aC t n f) : ∃ f, G1 p = aC t n f := by
  obtain ⟨f, e⟩ := h
  obtain ⟨f1, e1, -⟩ := (s.2 p hp).2.1 t n f e
  exact ⟨f1, e1⟩
theorem q_le.ob {ci : Nat} {fs fs1 : List Value} (h : G x = oC ci fs) (h11 : ci ≠ 11) : q_le x (G x) (oC ci fs1) := by
  rw [h]
  refine ⟨fun cj gs e => ?_, fun t n f e => (oa_ne e).elim, fun j e => (by cases e), fun t n f e => by cases e⟩
  obtain ⟨rfl, rfl⟩ := oC_inj e
  exact ⟨fs1, rfl, fun q => absurd q h11⟩
theorem q_le.g {fs fs1 : List Value} (h : G x = oC 11 fs) (hg : q_gl fs → q_gl fs1) : q_le x (G x) (oC 11 fs1) := by
  rw [h]
  refine ⟨fun cj gs e => ?_, fun t n f e => (oa_ne e).elim, fun j e => (by cases e), fun t n f e => by cases e⟩
  obtain ⟨rfl, rfl⟩ := oC_inj e
  exact ⟨fs1, rfl, fun _ => hg⟩
theorem q_le.a {t n i y : Nat} {f : Nat → Option Nat} (h : G x = aC t n f) : q_le x (G x) (aC t n (va_up f i (some y))) := by
  rw [h]
  refine ⟨fun cj gs e => (oa_ne e.symm).elim, fun u m g e => ?_, fun j e => (by cases e), fun t n f e => by cases e⟩
  obtain ⟨rfl, rfl, rfl⟩ := aC_inj e
  refine ⟨_, rfl, fun _ _ j z e => ?_⟩
  by_cases q : j = i
  · subst q
    exact ⟨y, up_eq⟩
  · exact ⟨z, (va_ne q).trans e⟩
theorem q_le.a4 {t n : Nat} {f f1 : Nat → Option Nat} (h : G x = aC t n f) (h4 : (t ≠ 6 ∧ t ≠ 7) ∨ x = 22) : q_le x (G x) (aC t n f1) := by
  rw [h]
  refine ⟨fun cj gs e => (oa_ne e.symm).elim, fun u m g e => ?_, fun j e => (by cases e), fun t n f e => by cases e⟩
  obtain ⟨rfl, rfl, rfl⟩ := aC_inj e
  refine ⟨_, rfl, fun h2 ht j z e => ?_⟩
  rcases h4 with h4 | h4
  · rcases ht with rfl | rfl
    · exact absurd rfl h4.1
    · exact absurd rfl h4.2
  · exact absurd h4 h2
theorem q_le.b {t n : Nat} {f f1 : Nat → Int32} (h : G x = .inl (t, (n, .inl f))) : q_le x (G x) (.inl (t, (n, .inl f1))) := by
  rw [h]
  refine ⟨fun cj gs e => (by cases e), fun u m g e => (by cases e), fun j e => (by cases e), fun u m g e => ?_⟩
  cases e
  exact ⟨f1, rfl⟩
end QH
def q_N (N : Nat) (G : Nat → sx_C) (p : Nat) (fs : List Value) : Prop := ∃ (k v s : Int32) (o : Option Nat), fs = [.ref (p + 1), .int k, .int v, .int s, va_rf o] ∧ p + 1 < N ∧ (∃ f, G (p + 1) = aC 6 3 f) ∧ 0 ≤ s.toInt ∧ s.toInt ≤ 3 ∧ (∀ i : Nat, (i : Int) < s.toInt → q_nn N G (p + 1) i) ∧ q_oo N G 10 o ∧ (k.toInt ≠ 0 → k.toInt ≠ 1 → 0 ≤ v.toInt ∧ v.toInt ≤ 255)
def q_G (N : Nat) (G : Nat → sx_C) (p : Nat) (fs : List Value) : Prop := ∃ (sg l : Int32) (o1 o2 o3 : Option Nat) (w : Int32), fs = [.int sg, .int l, va_rf o1, va_rf o2, va_rf o3, .ref (p + 1), .int w] ∧ p + 1 < N ∧ (∃ f, G (p + 1) = aC 6 12 f) ∧ (0 ≤ w.toInt ∧ w.toInt ≤ 12) ∧ (0 ≤ l.toInt ∧ l.toInt < 4) ∧ q_oo N G 10 o1 ∧ q_oo N G 10 o2 ∧ q_oo N G 10 o3 ∧ (sg.toInt ≠ 0 → o1 ≠ none ∧ (sg.toInt ≠ 99 → o2 ≠ none ∧ (sg.toInt ≠ 61 → o3 ≠ none)))
def q_R (N : Nat) (G : Nat → sx_C) (p : Nat) (fs : List Value) : Prop := ∃ s : Int32, fs = [.ref (p + 1), .int s] ∧ p + 1 < N ∧ (∃ f, G (p + 1) = aC 7 61 f) ∧ 0 ≤ s.toInt ∧ s.toInt ≤ 61 ∧ ∀ i : Nat, (i : Int) < s.toInt → q_nn N G (p + 1) i
def q_ok (N : Nat) (G : Nat → sx_C) (p : Nat) (c : sx_C) : Prop := (∀ fs, c = oC 10 fs → q_N N G p fs) ∧ (∀ fs, c = oC 11 fs → q_G N G p fs) ∧ (∀ fs, c = oC 6 fs → q_R N G p fs) ∧ (∀ n f, c = aC 6 n f → ∀ i, q_oo N G 10 (f i)) ∧ (∀ n f, c = aC 7 n f → ∀ i, q_og N G (f i))
def q_TH (N : Nat) (G : Nat → sx_C) : Prop := ∀ p, 5 ≤ p → p < N → q_ok N G p (G p)
section QT
variable {N N1 N2 p x i ci : Nat} {G G1 G2 : Nat → sx_C} {c c1 c2 : sx_C} {o : Option Nat} {fs : List Value}
theorem q_N.sl (h : q_N N G p fs) (s : q_sl N G N1 G1) : q_N N1 G1 p fs := by
  obtain ⟨k, v, z, o, h1, h2, h3, h4, h5, h6, h7, h8⟩ := h
  exact ⟨k, v, z, o, h1, Nat.lt_of_lt_of_le h2 s.1, s.ar h2 h3, h4, h5, fun i hi => (h6 i hi).sl s, h7.sl s, h8⟩
theorem q_G.sl (h : q_G N G p fs) (s : q_sl N G N1 G1) : q_G N1 G1 p fs := by
  obtain ⟨sg, l, o1, o2, o3, w, h1, h2, h3, h4, h5, h6, h7, h8, h9⟩ := h
  exact ⟨sg, l, o1, o2, o3, w, h1, Nat.lt_of_lt_of_le h2 s.1, s.ar h2 h3, h4, h5, h6.sl s, h7.sl s, h8.sl s, h9⟩
theorem q_R.sl (h : q_R N G p fs) (s : q_sl N G N1 G1) : q_R N1 G1 p fs := by
  obtain ⟨z, h1, h2, h3, h4, h5, h6⟩ := h
  exact ⟨z, h1, Nat.lt_of_lt_of_le h2 s.1, s.ar h2 h3, h4, h5, fun i hi => (h6 i hi).sl s⟩
theorem q_ok.sl (h : q_ok N G p c) (s : q_sl N G N1 G1) : q_ok N1 G1 p c :=
  ⟨fun fs e => (h.1 fs e).sl s, fun fs e => (h.2.1 fs e).sl s, fun fs e => (h.2.2.1 fs e).sl s, fun n f e i => (h.2.2.2.1 n f e i).sl s, fun n f e i => (h.2.2.2.2 n f e i).sl s⟩
theorem q_ok.nd (h : q_N N G p fs) : q_ok N G p (oC 10 fs) := by
  refine ⟨fun gs e => ?_, fun gs e => absurd (oC_inj e).1 (by decide), fun gs e => absurd (oC_inj e).1 (by decide), fun n f e => (oa_ne e).elim, fun n f e => (oa_ne e).elim⟩
  rw [← (oC_inj e).2]
  exact h
theorem q_ok.go (h : q_G N G p fs) : q_ok N G p (oC 11 fs) := by
  refine ⟨fun gs e => absurd (oC_inj e).1 (by decide), fun gs e => ?_, fun gs e => absurd (oC_inj e).1 (by decide), fun n f e => (oa_ne e).elim, fun n f e => (oa_ne e).elim⟩
  rw [← (oC_inj e).2]
  exact h
theorem q_ok.R (h : q_R N G p fs) : q_ok N G p (oC 6 fs) := by
  refine ⟨fun gs e => absurd (oC_inj e).1 (by decide), fun gs e => absurd (oC_inj e).1 (by decide), fun gs e => ?_, fun n f e => (oa_ne e).elim, fun n f e => (oa_ne e).elim⟩
  rw [← (oC_inj e).2]
  exact h
theorem q_ok.ot (h1 : ci ≠ 10) (h2 : ci ≠ 11) (h3 : ci ≠ 6) : q_ok N G p (oC ci fs) :=
  ⟨fun gs e => absurd (oC_inj e).1 h1, fun gs e => absurd (oC_inj e).1 h2, fun gs e => absurd (oC_inj e).1 h3, fun n f e => (oa_ne e).elim, fun n f e => (oa_ne e).elim⟩
theorem q_ok.a6 {n : Nat} {f : Nat → Option Nat} (h : ∀ i, q_oo N G 10 (f i)) : q_ok N G p (aC 6 n f) := by
  refine ⟨fun gs e => (oa_ne e.symm).elim, fun gs e => (oa_ne e.symm).elim, fun gs e => (oa_ne e.symm).elim, fun n f e => ?_, fun n f e => absurd (aC_inj e).1 (by decide)⟩
  rw [← (aC_inj e).2.2]
  exact h
theorem q_ok.a7 {n : Nat} {f : Nat → Option Nat} (h : ∀ i, q_og N G (f i)) : q_ok N G p (aC 7 n f) := by
  refine ⟨fun gs e => (oa_ne e.symm).elim, fun gs e => (oa_ne e.symm).elim, fun gs e => (oa_ne e.symm).elim, fun n f e => absurd (aC_inj e).1 (by decide), fun n f e => ?_⟩
  rw [← (aC_inj e).2.2]
  exact h
theorem q_ok.a {t n : Nat} {f : Nat → Option Nat} (h6 : t ≠ 6) (h7 : t ≠ 7) : q_ok N G p (aC t n f) :=
  ⟨fun gs e => (oa_ne e.symm).elim, fun gs e => (oa_ne e.symm).elim, fun gs e => (oa_ne e.symm).elim, fun n f e => absurd (aC_inj e).1 h6, fun n f e => absurd (aC_inj e).1 h7⟩
theorem q_ok.b {t n : Nat} {f : Nat → Int32} : q_ok N G p (.inl (t, (n, .inl f))) := ⟨fun gs e => (by cases e), fun gs e => (by cases e), fun gs e => (by cases e), fun n f e => (by cases e), fun n f e => by cases e⟩
theorem q_ok.ex {j : Nat} : q_ok N G p (.inr (.inr j)) := ⟨fun gs e => (by cases e), fun gs e => (by cases e), fun gs e => (by cases e), fun n f e => (by cases e), fun n f e => by cases e⟩
theorem q_TH.gen (h : q_TH N G) (s : q_sl N G N1 G1) (hc : ∀ p, 5 ≤ p → p < N1 → (p < N ∧ G1 p = G p) ∨ q_ok N1 G1 p (G1 p)) : q_TH N1 G1 := by
  intro p h5 hp
  rcases hc p h5 hp with ⟨h1, e⟩ | h1
  · rw [e]
    exact (h p h5 h1).sl s
  · exact h1
theorem q_TH.up (h : q_TH N G) (hl : q_le x (G x) c) (hc : q_sl N G N (va_up G x c) → q_ok N (va_up G x c) x c) : q_TH N (va_up G x c) := by
  have s : q_sl N G N (va_up G x c) := q_sl.up hl
  refine h.gen s (fun p h5 hp => ?_)
  by_cases e : p = x
  · subst e
    rw [up_eq]
    exact Or.inr (hc s)
  · exact Or.inl ⟨hp, va_ne e⟩
theorem q_TH.nd (h : q_TH N G) (hx : q_ob N G x 10) : ∃ (k v s : Int32) (o : Option Nat) (f : Nat → Option Nat), G x = oC 10 [.ref (x + 1), .int k, .int v, .int s, va_rf o] ∧ x + 1 < N ∧ G (x + 1) = aC 6 3 f ∧ 0 ≤ s.toInt ∧ s.toInt ≤ 3 ∧ (∀ i : Nat, (i : Int) < s.toInt → ∃ y, f i = some y ∧ q_ob N G y 10) ∧ q_oo N G 10 o ∧ (∀ i, q_oo N G 10 (f i)) ∧ (∀ i : Nat, (i : Int) < s.toInt → q_nn N G (x + 1) i) := by
  obtain ⟨h5, hp, fs, e⟩ := hx
  have q := h x h5 hp
  obtain ⟨k, v, s, o, h1, h2, ⟨f, h3⟩, h4, h6, h7, h8, -⟩ := q.1 fs e
  subst h1
  have qf := (h (x + 1) (by omega) h2).2.2.2.1 3 f h3
  refine ⟨k, v, s, o, f, e, h2, h3, h4, h6, fun i hi => ?_, h8, qf, h7⟩
  obtain ⟨-, -, t, n, f1, y, e1, -, e2⟩ := h7 i hi
  obtain ⟨-, -, rfl⟩ := aC_inj (h3.symm.trans e1)
  exact ⟨y, e2, qf i y e2⟩
theorem q_TH.kv {k v s : Int32} (h : q_TH N G) (hx : q_ob N G x 10) (e : G x = oC 10 [.ref (x + 1), .int k, .int v, .int s, va_rf o]) : k.toInt ≠ 0 → k.toInt ≠ 1 → 0 ≤ v.toInt ∧ v.toInt ≤ 255 := by
  obtain ⟨h5, hp, -⟩ := hx
  obtain ⟨k', v', s', o', h1, -, -, -, -, -, -, h8⟩ := (h x h5 hp).1 _ e
  injection h1 with _ h1
  injection h1 with a1 h1
  injection h1 with a2 _
  injection a1 with a1
  injection a2 with a2
  subst a1
  subst a2
  exact h8
theorem q_TH.go (h : q_TH N G) (hx : q_ob N G x 11) : ∃ (sg l : Int32) (o1 o2 o3 : Option Nat) (w : Int32) (f : Nat → Option Nat), G x = oC 11 [.int sg, .int l, va_rf o1, va_rf o2, va_rf o3, .ref (x + 1), .int w] ∧ x + 1 < N ∧ G (x + 1) = aC 6 12 f ∧ (0 ≤ w.toInt ∧ w.toInt ≤ 12) ∧ (0 ≤ l.toInt ∧ l.toInt < 4) ∧ q_oo N G 10 o1 ∧ q_oo N G 10 o2 ∧ q_oo N G 10 o3 ∧ (sg.toInt ≠ 0 → o1 ≠ none ∧ (sg.toInt ≠ 99 → o2 ≠ none ∧ (sg.toInt ≠ 61 → o3 ≠ none))) ∧ (∀ i, q_oo N G 10 (f i)) := by
  obtain ⟨h5, hp, fs, e⟩ := hx
  obtain ⟨sg, l, o1, o2, o3, w, h1, h2, ⟨f, h3⟩, h4, h6, h7, h8, h9, h10⟩ := (h x h5 hp).2.1 fs e
  subst h1
  exact ⟨sg, l, o1, o2, o3, w, f, e, h2, h3, h4, h6, h7, h8, h9, h10, (h (x + 1) (by omega) h2).2.2.2.1 12 f h3⟩
theorem q_TH.rw (h : q_TH N G) (hx : q_ob N G x 6) : ∃ (s : Int32) (f : Nat → Option Nat), G x = oC 6 [.ref (x + 1), .int s] ∧ x + 1 < N ∧ G (x + 1) = aC 7 61 f ∧ 0 ≤ s.toInt ∧ s.toInt ≤ 61 ∧ (∀ i : Nat, (i : Int) < s.toInt → ∃ y, f i = some y ∧ q_og N G (some y)) ∧ (∀ i, q_og N G (f i)) ∧ (∀ i : Nat, (i : Int) < s.toInt → q_nn N G (x + 1) i) := by
  obtain ⟨h5, hp, fs, e⟩ := hx
  obtain ⟨s, h1, h2, ⟨f, h3⟩, h4, h6, h7⟩ := (h x h5 hp).2.2.1 fs e
  subst h1
  have qf := (h (x + 1) (by omega) h2).2.2.2.2 61 f h3
  refine ⟨s, f, e, h2, h3, h4, h6, fun i hi => ?_, qf, h7⟩
  obtain ⟨-, -, t, n, f1, y, e1, -, e2⟩ := h7 i hi
  obtain ⟨-, -, rfl⟩ := aC_inj (h3.symm.trans e1)
  exact ⟨y, e2, e2 ▸ qf i⟩
theorem q_TH.el {n : Nat} {f : Nat → Option Nat} (h : q_TH N G) (h5 : 5 ≤ p) (e : G p = aC 6 n f) (hn : q_nn N G p i) : ∃ y, f i = some y ∧ q_ob N G y 10 := by
  obtain ⟨-, hp, t, m, f1, y, e1, -, e2⟩ := hn
  obtain ⟨-, -, rfl⟩ := aC_inj (e.symm.trans e1)
  exact ⟨y, e2, (h p h5 hp).2.2.2.1 n f e i y e2⟩
theorem q_og.ob {y : Nat} (h : q_og N G (some y)) : q_ob N G y 11 := by
  obtain ⟨h5, hp, fs, e, -⟩ := h y rfl
  exact ⟨h5, hp, fs, e⟩
theorem q_og.sg {y : Nat} {sg l : Int32} {r : List Value} (h : q_og N G (some y)) (e : G y = oC 11 (.int sg :: r)) : sg.toInt ≠ 0 := by
  obtain ⟨h5, hp, fs, e1, g⟩ := h y rfl
  obtain ⟨-, rfl⟩ := oC_inj (e.symm.trans e1)
  intro q
  refine g ?_
  have : sg = 0 := Int32.toInt_inj.mp q
  rw [this]
  rfl
theorem q_gl.of {sg : Int32} {r : List Value} (h : sg.toInt ≠ 0) : q_gl (.int sg :: r) := by
  intro q
  have q' : some (Value.int sg) = some (.int 0) := q
  have e : sg = 0 := by
    cases q'
    rfl
  rw [e] at h
  exact h rfl
theorem q_gl.to {sg : Int32} {r : List Value} (h : q_gl (.int sg :: r)) : sg.toInt ≠ 0 := by
  intro q
  refine h ?_
  have : sg = 0 := Int32.toInt_inj.mp q
  rw [this]
  rfl
end QT
