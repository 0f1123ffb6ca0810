/-! THE USE AND ITS STORE: the single places; the invariant of what Use, Store, Pairs and Nodes hold; what they may change -/
def q_tg (p : Nat) : Option Nat := if p = 5 then some 0 else if p = 6 then some 1 else if p = 8 then some 13 else if p = 9 then some 2 else if p = 10 then some 3 else if p = 11 then some 4 else if p = 12 then some 13 else if p = 13 then some 5 else if p = 18 ∨ p = 20 ∨ p = 23 ∨ p = 25 ∨ p = 27 ∨ p = 29 then some 6 else if p = 31 then some 14 else none
def q_ta (p : Nat) : Option (Nat × Nat) := if p = 1 then some (4, 0) else if p = 14 then some (6, 121) else if p = 15 then some (6, 121) else if p = 16 then some (6, 26) else if p = 17 then some (5, 4) else if p = 22 then some (6, 26) else none
def q_Z (N : Nat) (G : Nat → sx_C) : Prop := 64 < N ∧ (∃ j : Nat, G 4 = .inr (.inr j)) ∧ ((∃ f : Nat → Int32, G 7 = .inl (1, (48, .inl f))) ∧ (∃ f : Nat → Int32, G 2 = .inl (1, (100, .inl f))) ∧ (∃ f : Nat → Int32, G 3 = .inl (1, (100, .inl f)))) ∧ (∀ p ci, q_tg p = some ci → ∃ fs, G p = oC ci fs) ∧ (∀ p t n, q_ta p = some (t, n) → ∃ f, G p = aC t n f)
def q_P (N : Nat) (G : Nat → sx_C) : Prop := ∃ (op lk : Int32) (l r : Option Nat), G 13 = oC 5 [.ref 14, .ref 15, .int op, .int lk, va_rf l, va_rf r] ∧ 0 ≤ op.toInt ∧ op.toInt ≤ 121 ∧ 0 ≤ lk.toInt ∧ lk.toInt ≤ 60 ∧ (∀ i : Nat, (i : Int) < op.toInt → q_nn N G 14 i ∧ q_nn N G 15 i) ∧ q_oo N G 10 l ∧ q_oo N G 10 r
def q_M (N : Nat) (G : Nat → sx_C) : Prop := ∃ (mt : Int32) (fd : Option Nat), G 10 = oC 3 [.ref 11, .ref 13, .ref 16, .int mt, va_rf fd] ∧ (∀ (u : Int32) (k : Nat), u.toInt = (k : Int) → k < 26 → (c_ushr mt u &&& 1).toInt ≠ 0 → q_nn N G 16 k) ∧ q_oo N G 10 fd
def q_S (N : Nat) (G : Nat → sx_C) (u c : Nat) : Prop := ∃ (us vr sz m : Int32) (a n s : Nat) (f : Nat → Option Nat), G 11 = oC 4 [.ref 12, .int us, .int vr] ∧ us.toInt = (u : Int) ∧ G 12 = oC 13 [.ref a, .int sz, .int m] ∧ sz.toInt = (s : Int) ∧ u ≤ s ∧ s ≤ 20000 ∧ a < N ∧ G a = aC 4 n f ∧ (∀ i, i < s → ∃ y, f i = some y ∧ q_ob N G y 10) ∧ s ≤ n ∧ n ≤ 2 * s + 10 ∧ ((a = 1 ∧ n = 0) ∨ (64 < a ∧ 10 ≤ n)) ∧ c = 2 * s + n
def q_uI (N : Nat) (G : Nat → sx_C) (u c : Nat) : Prop := q_TH N G ∧ q_Z N G ∧ q_P N G ∧ q_M N G ∧ q_S N G u c
def q_U (G : Nat → sx_C) (p : Nat) : Prop := (10 ≤ p ∧ p ≤ 16) ∨ (∃ (a : Nat) (s m : Value), G 12 = oC 13 [.ref a, s, m] ∧ p = a ∧ p ≠ 1) ∨ (∃ fs, G p = oC 10 fs) ∨ (∃ f, G p = aC 6 3 f)
def q_UR (N : Nat) (G : Nat → sx_C) (N1 : Nat) (G1 : Nat → sx_C) : Prop := q_sl N G N1 G1 ∧ (∀ p, p < N → ¬ q_U G p → G1 p = G p) ∧ (∀ p, p < N → q_U G1 p → q_U G p)
section QU
variable {N N1 N2 p x i ci u c u1 c1 : Nat} {G G1 G2 : Nat → sx_C} {d : sx_C} {o : Option Nat} {fs : List Value}
theorem q_tg_le (h : q_tg p = some ci) : p < 64 := by
  unfold q_tg at h
  repeat' split at h
  all_goals first | omega | (cases h; done)
theorem q_ta_le {t n : Nat} (h : q_ta p = some (t, n)) : p < 64 := by
  unfold q_ta at h
  repeat' split at h
  all_goals first | omega | (cases h; done)
theorem q_Z.sl (h : q_Z N G) (s : q_sl N G N1 G1) : q_Z N1 G1 := by
  obtain ⟨h1, ⟨j, h2⟩, ⟨⟨f, h3⟩, ⟨f2, h32⟩, ⟨f3, h33⟩⟩, h4, h5⟩ := h
  refine ⟨Nat.lt_of_lt_of_le h1 s.1, ⟨j, ?_⟩, ?_, fun p ci e => ?_, fun p t n e => s.ar (Nat.lt_trans (q_ta_le e) h1) (h5 p t n e)⟩
  · rw [(s.2 4 (by omega)).2.2.1 j h2]
    exact h2
  · exact ⟨(s.2 7 (by omega)).2.2.2 1 48 f h3, (s.2 2 (by omega)).2.2.2 1 100 f2 h32, (s.2 3 (by omega)).2.2.2 1 100 f3 h33⟩
  · obtain ⟨fs, e1⟩ := h4 p ci e
    obtain ⟨f1, e2, -⟩ := (s.2 p (Nat.lt_trans (q_tg_le e) h1)).1 ci fs e1
    exact ⟨f1, e2⟩
theorem q_Z.oj (h : q_Z N G) (p ci : Nat) (e : q_tg p = some ci) : ∃ fs, G p = oC ci fs := h.2.2.2.1 p ci e
theorem q_Z.a (h : q_Z N G) (p t n : Nat) (e : q_ta p = some (t, n)) : ∃ f, G p = aC t n f := h.2.2.2.2 p t n e
theorem q_Z.ob (h : q_Z N G) (p ci : Nat) (e : q_tg p = some ci) (h5 : 5 ≤ p) : q_ob N G p ci := ⟨h5, Nat.lt_trans (q_tg_le e) h.1, h.oj p ci e⟩
theorem q_Z.ne (h : q_Z N G) {cx : Nat} (hx : q_ob N G x cx) (p ci : Nat) (e : q_tg p = some ci) (hc : cx ≠ ci) : x ≠ p := by
  intro q
  subst q
  obtain ⟨-, -, fs, e1⟩ := hx
  obtain ⟨gs, e2⟩ := h.oj x ci e
  exact hc (oC_inj (e1.symm.trans e2)).1
theorem q_Z.na (h : q_Z N G) {t n : Nat} {f : Nat → Option Nat} (hx : G x = aC t n f) (p ci : Nat) (e : q_tg p = some ci) : x ≠ p := by
  intro q
  subst q
  obtain ⟨gs, e2⟩ := h.oj x ci e
  exact oa_ne (e2.symm.trans hx)
theorem q_P.fr (h : q_P N G) (s : q_sl N G N1 G1) (e : G1 13 = G 13) : q_P N1 G1 := by
  obtain ⟨op, lk, l, r, h1, h2, h3, h4, h5, h6, h7, h8⟩ := h
  exact ⟨op, lk, l, r, e.trans h1, h2, h3, h4, h5, fun i hi => ⟨(h6 i hi).1.sl s, (h6 i hi).2.sl s⟩, h7.sl s, h8.sl s⟩
theorem q_M.fr (h : q_M N G) (s : q_sl N G N1 G1) (e : G1 10 = G 10) : q_M N1 G1 := by
  obtain ⟨mt, fd, h1, h2, h3⟩ := h
  exact ⟨mt, fd, e.trans h1, fun u k a b g => (h2 u k a b g).sl s, h3.sl s⟩
theorem q_S.fr (h : q_S N G u c) (s : q_sl N G N1 G1) (e11 : G1 11 = G 11) (e12 : G1 12 = G 12) (ea : ∀ (a : Nat) (z m : Value), G 12 = oC 13 [.ref a, z, m] → G1 a = G a) : q_S N1 G1 u c := by
  obtain ⟨us, vr, sz, m, a, n, z, f, h1, h2, h3, h4, h5, h6, h7, h8, h9, h10, h11, h12, h13⟩ := h
  refine ⟨us, vr, sz, m, a, n, z, f, e11.trans h1, h2, e12.trans h3, h4, h5, h6, Nat.lt_of_lt_of_le h7 s.1, (ea a _ _ h3).trans h8, fun i hi => ?_, h10, h11, h12, h13⟩
  obtain ⟨y, g1, g2⟩ := h9 i hi
  exact ⟨y, g1, g2.sl s⟩
theorem q_S.a4 (h : q_S N G u c) {a : Nat} {z m : Value} (e : G 12 = oC 13 [.ref a, z, m]) : ∃ n f, G a = aC 4 n f ∧ a < N := by
  obtain ⟨us, vr, sz, m, b, n, z, f, h1, h2, h3, h4, h5, h6, h7, h8, -⟩ := h
  have := (oC_inj (e.symm.trans h3)).2
  cases this
  exact ⟨n, f, h8, h7⟩
theorem q_UR.rfl' : q_UR N G N G := ⟨q_sl.rfl', fun _ _ _ => rfl, fun _ _ h => h⟩
theorem q_UR.trans (h : q_UR N G N1 G1) (g : q_UR N1 G1 N2 G2) : q_UR N G N2 G2 := by
  refine ⟨h.1.trans g.1, fun p hp hU => ?_, fun p hp hU => h.2.2 p hp (g.2.2 p (Nat.lt_of_lt_of_le hp h.1.1) hU)⟩
  rw [g.2.1 p (Nat.lt_of_lt_of_le hp h.1.1) (fun q => hU (h.2.2 p hp q))]
  exact h.2.1 p hp hU
theorem q_UR.up (hl : q_le x (G x) d) (hU : q_U G x) (h12 : x ≠ 12) : q_UR N G N (va_up G x d) := by
  refine ⟨q_sl.up hl, fun p hp hn => va_ne (fun e => hn (e ▸ hU)), fun p hp h => ?_⟩
  by_cases e : p = x
  · rw [e]
    exact hU
  · rcases h with h | ⟨a, s, m, h, q⟩ | ⟨fs, h⟩ | ⟨f, h⟩
    · exact Or.inl h
    · rw [va_ne (Ne.symm h12)] at h
      exact Or.inr (Or.inl ⟨a, s, m, h, q⟩)
    · rw [va_ne e] at h
      exact Or.inr (Or.inr (Or.inl ⟨fs, h⟩))
    · rw [va_ne e] at h
      exact Or.inr (Or.inr (Or.inr ⟨f, h⟩))
theorem q_uI.up (h : q_uI N G u c) (hl : q_le x (G x) d) (hc : q_sl N G N (va_up G x d) → q_ok N (va_up G x d) x d) (h10 : x ≠ 10) (h11 : x ≠ 11) (h12 : x ≠ 12) (h13 : x ≠ 13) (h4 : ∀ n f, G x ≠ aC 4 n f) : q_uI N (va_up G x d) u c := by
  have s : q_sl N G N (va_up G x d) := q_sl.up hl
  refine ⟨h.1.up hl hc, h.2.1.sl s, h.2.2.1.fr s (va_ne (Ne.symm h13)), h.2.2.2.1.fr s (va_ne (Ne.symm h10)), h.2.2.2.2.fr s (va_ne (Ne.symm h11)) (va_ne (Ne.symm h12)) (fun a z m e => va_ne (fun q => ?_))⟩
  obtain ⟨n, f, g, -⟩ := h.2.2.2.2.a4 e
  rw [q] at g
  exact h4 n f g
/-- the cell of the list of Nodes is none of the single places -/
theorem q_uI.e13 (h : q_uI N G u c) {fs : List Value} {op lk : Int32} {l r : Option Nat} (hf : fs = [.ref 14, .ref 15, .int op, .int lk, va_rf l, va_rf r]) (h0 : 0 ≤ op.toInt) (h1 : op.toInt ≤ 121) (h2 : 0 ≤ lk.toInt) (h3 : lk.toInt ≤ 60) (hn : ∀ i : Nat, (i : Int) < op.toInt → q_nn N G 14 i ∧ q_nn N G 15 i) (hl : q_oo N G 10 l) (hr : q_oo N G 10 r) : q_uI N (va_up G 13 (oC 5 fs)) u c ∧ q_UR N G N (va_up G 13 (oC 5 fs)) := by
  obtain ⟨gs, e⟩ := h.2.1.oj 13 5 rfl
  have hle : q_le 13 (G 13) (oC 5 fs) := q_le.ob e (by decide)
  have s : q_sl N G N (va_up G 13 (oC 5 fs)) := q_sl.up hle
  refine ⟨⟨h.1.up hle (fun _ => q_ok.ot (by decide) (by decide) (by decide)), h.2.1.sl s, ?_, h.2.2.2.1.fr s (va_ne (by decide)), h.2.2.2.2.fr s (va_ne (by decide)) (va_ne (by decide)) (fun a z m e1 => va_ne (fun q => ?_))⟩, q_UR.up hle (Or.inl (by decide)) (by decide)⟩
  · exact ⟨op, lk, l, r, by rw [up_eq, hf], h0, h1, h2, h3, fun i hi => ⟨(hn i hi).1.sl s, (hn i hi).2.sl s⟩, hl.sl s, hr.sl s⟩
  · obtain ⟨n, f, g, -⟩ := h.2.2.2.2.a4 e1
    rw [q, e] at g
    exact oa_ne g
theorem q_uI.e10 (h : q_uI N G u c) {mt : Int32} {fd : Option Nat} (hb : ∀ (w : Int32) (k : Nat), w.toInt = (k : Int) → k < 26 → (c_ushr mt w &&& 1).toInt ≠ 0 → q_nn N G 16 k) (hf : q_oo N G 10 fd) : q_uI N (va_up G 10 (oC 3 [.ref 11, .ref 13, .ref 16, .int mt, va_rf fd])) u c ∧ q_UR N G N (va_up G 10 (oC 3 [.ref 11, .ref 13, .ref 16, .int mt, va_rf fd])) := by
  obtain ⟨gs, e⟩ := h.2.1.oj 10 3 rfl
  have hle : q_le 10 (G 10) (oC 3 [.ref 11, .ref 13, .ref 16, .int mt, va_rf fd]) := q_le.ob e (by decide)
  have s := q_sl.up (N := N) hle
  refine ⟨⟨h.1.up hle (fun _ => q_ok.ot (by decide) (by decide) (by decide)), h.2.1.sl s, h.2.2.1.fr s (va_ne (by decide)), ?_, h.2.2.2.2.fr s (va_ne (by decide)) (va_ne (by decide)) (fun a z m e1 => va_ne (fun q => ?_))⟩, q_UR.up hle (Or.inl (by decide)) (by decide)⟩
  · exact ⟨mt, fd, up_eq, fun w k a b g => (hb w k a b g).sl s, hf.sl s⟩
  · obtain ⟨n, f, g, -⟩ := h.2.2.2.2.a4 e1
    rw [q, e] at g
    exact oa_ne g
theorem q_uI.e11 (h : q_uI N G u c) {us vr : Int32} (hu : us.toInt = (u1 : Int)) (hle1 : ∀ (sz : Int32) (a : Nat) (m : Value), G 12 = oC 13 [.ref a, .int sz, m] → (u1 : Int) ≤ sz.toInt) : q_uI N (va_up G 11 (oC 4 [.ref 12, .int us, .int vr])) u1 c ∧ q_UR N G N (va_up G 11 (oC 4 [.ref 12, .int us, .int vr])) := by
  obtain ⟨gs, e⟩ := h.2.1.oj 11 4 rfl
  have hle : q_le 11 (G 11) (oC 4 [.ref 12, .int us, .int vr]) := q_le.ob e (by decide)
  have s := q_sl.up (N := N) hle
  refine ⟨⟨h.1.up hle (fun _ => q_ok.ot (by decide) (by decide) (by decide)), h.2.1.sl s, h.2.2.1.fr s (va_ne (by decide)), h.2.2.2.1.fr s (va_ne (by decide)), ?_⟩, q_UR.up hle (Or.inl (by decide)) (by decide)⟩
  obtain ⟨us0, vr0, sz, m, a, n, z, f, h1, h2, h3, h4, h5, h6, h7, h8, h9, h10, h11, h12, h13⟩ := h.2.2.2.2
  have hz := hle1 sz a _ h3
  refine ⟨us, vr, sz, m, a, n, z, f, up_eq, hu, (va_ne (by decide)).trans h3, h4, by omega, h6, h7, (va_ne (fun q => ?_)).trans h8, fun i hi => ?_, h10, h11, h12, h13⟩
  · rw [q, e] at h8
    exact oa_ne h8
  · obtain ⟨y, g1, g2⟩ := h9 i hi
    exact ⟨y, g1, g2.sl s⟩
/-- an array of Nodes (a Pair's, the Use's) gets one more -/
theorem q_uI.ea (h : q_uI N G u c) {n k y : Nat} {f : Nat → Option Nat} (hx : x = 14 ∨ x = 15 ∨ x = 16) (e : G x = aC 6 n f) (hy : q_ob N G y 10) : q_uI N (va_up G x (aC 6 n (va_up f k (some y)))) u c ∧ q_UR N G N (va_up G x (aC 6 n (va_up f k (some y)))) ∧ q_nn N (va_up G x (aC 6 n (va_up f k (some y)))) x k := by
  have hle : q_le x (G x) (aC 6 n (va_up f k (some y))) := q_le.a e
  have hN := h.2.1.1
  refine ⟨h.up hle (fun s => q_ok.a6 (fun j => ?_)) (by omega) (by omega) (by omega) (by omega) (fun n1 f1 q => absurd (aC_inj (e.symm.trans q)).1 (by decide)), q_UR.up hle (Or.inl (by omega)) (by omega), by omega, by omega, 6, n, _, y, up_eq, Or.inl rfl, up_eq⟩
  have hf := (h.1 x (by omega) (by omega)).2.2.2.1 n f e
  by_cases q : j = k
  · rw [q, up_eq]
    exact q_oo.some (hy.sl s)
  · rw [va_ne q]
    exact (hf j).sl s
/-- a Node's own fields -/
theorem q_uI.en (h : q_uI N G u c) {k v s : Int32} {o : Option Nat} (hx : q_ob N G x 10) (h0 : 0 ≤ s.toInt) (h3 : s.toInt ≤ 3) (hs : ∀ i : Nat, (i : Int) < s.toInt → q_nn N G (x + 1) i) (ho : q_oo N G 10 o) (hkv : k.toInt ≠ 0 → k.toInt ≠ 1 → 0 ≤ v.toInt ∧ v.toInt ≤ 255) : q_uI N (va_up G x (oC 10 [.ref (x + 1), .int k, .int v, .int s, va_rf o])) u c ∧ q_UR N G N (va_up G x (oC 10 [.ref (x + 1), .int k, .int v, .int s, va_rf o])) := by
  obtain ⟨k0, v0, s0, o0, f, e, g1, g2, -⟩ := h.1.nd hx
  have hle : q_le x (G x) (oC 10 [.ref (x + 1), .int k, .int v, .int s, va_rf o]) := q_le.ob e (by decide)
  refine ⟨h.up hle (fun sl => q_ok.nd ⟨k, v, s, o, rfl, g1, sl.ar g1 ⟨f, g2⟩, h0, h3, fun i hi => (hs i hi).sl sl, ho.sl sl, hkv⟩) (h.2.1.ne hx 10 3 rfl (by decide)) (h.2.1.ne hx 11 4 rfl (by decide)) (h.2.1.ne hx 12 13 rfl (by decide)) (h.2.1.ne hx 13 5 rfl (by decide)) (fun n1 f1 q => oa_ne (e.symm.trans q)), q_UR.up hle (Or.inr (Or.inr (Or.inl ⟨_, e⟩))) (h.2.1.ne hx 12 13 rfl (by decide))⟩
/-- a Node's array of parts -/
theorem q_uI.ep (h : q_uI N G u c) {n k y : Nat} {f : Nat → Option Nat} (hx : q_ob N G x 10) (e : G (x + 1) = aC 6 3 f) (hy : q_ob N G y 10) : q_uI N (va_up G (x + 1) (aC 6 3 (va_up f k (some y)))) u c ∧ q_UR N G N (va_up G (x + 1) (aC 6 3 (va_up f k (some y)))) ∧ q_nn N (va_up G (x + 1) (aC 6 3 (va_up f k (some y)))) (x + 1) k := by
  obtain ⟨k0, v0, s0, o0, f0, e0, g1, g2, -⟩ := h.1.nd hx
  have hle : q_le (x + 1) (G (x + 1)) (aC 6 3 (va_up f k (some y))) := q_le.a e
  have h5 := hx.1
  have n22 : x + 1 ≠ 22 := by
    intro q
    obtain ⟨f2, e2⟩ := h.2.1.a 22 6 26 rfl
    rw [← q] at e2
    exact absurd (aC_inj (e.symm.trans e2)).2.1 (by decide)
  refine ⟨h.up hle (fun s => q_ok.a6 (fun j => ?_)) (h.2.1.na e 10 3 rfl) (h.2.1.na e 11 4 rfl) (h.2.1.na e 12 13 rfl) (h.2.1.na e 13 5 rfl) (fun n1 f1 q => absurd (aC_inj (e.symm.trans q)).1 (by decide)), q_UR.up hle (Or.inr (Or.inr (Or.inr ⟨f, e⟩))) (h.2.1.na e 12 13 rfl), n22, g1, 6, 3, _, y, up_eq, Or.inl rfl, up_eq⟩
  have hf := (h.1 (x + 1) (by omega) g1).2.2.2.1 3 f e
  by_cases q : j = k
  · rw [q, up_eq]
    exact q_oo.some (hy.sl s)
  · rw [va_ne q]
    exact (hf j).sl s
end QU
