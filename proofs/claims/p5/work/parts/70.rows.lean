/-! THE NETWORK: its Rows and Goals; what it may change; Row.take, goalsInRows, Goal.awaits, await -/
def q_row (x : Nat) : Prop := x = 18 ∨ x = 20 ∨ x = 23 ∨ x = 25 ∨ x = 27 ∨ x = 29
def q_rz (G : Nat → sx_C) (p : Nat) : Int := match G p with
  | .inr (.inl (_, [_, .int s])) => s.toInt
  | _ => 0
def q_sum (G : Nat → sx_C) : Int := q_rz G 18 + q_rz G 20 + q_rz G 23 + q_rz G 25 + q_rz G 27 + q_rz G 29
def q_nS (G : Nat → sx_C) (mk hd : Nat) (sp : Int32) : Prop := (∃ st sl : Int32, G 9 = oC 2 [.ref 10, .ref 17, .ref 18, .ref 20, .ref 22, .int st, .int sp, .int sl]) ∧ (∃ f, G 17 = aC 5 4 f ∧ ∀ i, i < 4 → f i = some (23 + 2 * i)) ∧ q_sum G + (hd : Int) = (mk : Int) ∧ mk ≤ 61
def q_nI (N : Nat) (G : Nat → sx_C) (u c mk hd : Nat) (sp : Int32) : Prop := q_uI N G u c ∧ q_nS G mk hd sp
def q_V (G : Nat → sx_C) (p : Nat) : Prop := q_U G p ∨ p = 9 ∨ (18 ≤ p ∧ p ≤ 30) ∨ (∃ fs, G p = oC 11 fs) ∨ (∃ f, G p = aC 6 12 f)
def q_NR (N : Nat) (G : Nat → sx_C) (N1 : Nat) (G1 : Nat → sx_C) : Prop := q_sl N G N1 G1 ∧ (∀ p, p < N → ¬ q_V G p → G1 p = G p) ∧ (∀ p, p < N → q_V G1 p → q_V G p)
section QR
variable {N N1 N2 x y u c u1 c1 mk hd : Nat} {G G1 G2 : Nat → sx_C} {d : sx_C} {sp : Int32} {K : Option Value ⊕ Nat → Nat → (Nat → sx_C) → Nat → Nat → Prop}
theorem q_row.le (h : q_row x) : 18 ≤ x ∧ x ≤ 29 := by
  unfold q_row at h
  omega
theorem q_row.tg (h : q_row x) : q_tg x = some 6 := by
  rcases h with rfl | rfl | rfl | rfl | rfl | rfl <;> rfl
theorem q_rz.eq {s : Int32} {v : Value} (e : G x = oC 6 [v, .int s]) : q_rz G x = s.toInt := by
  unfold q_rz
  rw [e]
theorem q_rz.fr {p : Nat} (e : G1 p = G p) : q_rz G1 p = q_rz G p := by
  unfold q_rz
  rw [e]
theorem q_sum_row {k : Int} (hx : q_row x) (fr : ∀ p, p ≠ x → p ≠ x + 1 → G1 p = G p) (e : q_rz G1 x = q_rz G x + k) : q_sum G1 = q_sum G + k := by
  unfold q_sum
  rcases hx with rfl | rfl | rfl | rfl | rfl | rfl
  · rw [e, q_rz.fr (fr 20 (by decide) (by decide)), q_rz.fr (fr 23 (by decide) (by decide)), q_rz.fr (fr 25 (by decide) (by decide)), q_rz.fr (fr 27 (by decide) (by decide)), q_rz.fr (fr 29 (by decide) (by decide))]
    omega
  · rw [e, q_rz.fr (fr 18 (by decide) (by decide)), q_rz.fr (fr 23 (by decide) (by decide)), q_rz.fr (fr 25 (by decide) (by decide)), q_rz.fr (fr 27 (by decide) (by decide)), q_rz.fr (fr 29 (by decide) (by decide))]
    omega
  · rw [e, q_rz.fr (fr 18 (by decide) (by decide)), q_rz.fr (fr 20 (by decide) (by decide)), q_rz.fr (fr 25 (by decide) (by decide)), q_rz.fr (fr 27 (by decide) (by decide)), q_rz.fr (fr 29 (by decide) (by decide))]
    omega
  · rw [e, q_rz.fr (fr 18 (by decide) (by decide)), q_rz.fr (fr 20 (by decide) (by decide)), q_rz.fr (fr 23 (by decide) (by decide)), q_rz.fr (fr 27 (by decide) (by decide)), q_rz.fr (fr 29 (by decide) (by decide))]
    omega
  · rw [e, q_rz.fr (fr 18 (by decide) (by decide)), q_rz.fr (fr 20 (by decide) (by decide)), q_rz.fr (fr 23 (by decide) (by decide)), q_rz.fr (fr 25 (by decide) (by decide)), q_rz.fr (fr 29 (by decide) (by decide))]
    omega
  · rw [e, q_rz.fr (fr 18 (by decide) (by decide)), q_rz.fr (fr 20 (by decide) (by decide)), q_rz.fr (fr 23 (by decide) (by decide)), q_rz.fr (fr 25 (by decide) (by decide)), q_rz.fr (fr 27 (by decide) (by decide))]
    omega
theorem q_sum_fr (fr : ∀ p, q_row p → G1 p = G p) : q_sum G1 = q_sum G := by
  unfold q_sum
  rw [q_rz.fr (fr 18 (Or.inl rfl)), q_rz.fr (fr 20 (Or.inr (Or.inl rfl))), q_rz.fr (fr 23 (Or.inr (Or.inr (Or.inl rfl)))), q_rz.fr (fr 25 (Or.inr (Or.inr (Or.inr (Or.inl rfl))))), q_rz.fr (fr 27 (Or.inr (Or.inr (Or.inr (Or.inr (Or.inl rfl)))))), q_rz.fr (fr 29 (Or.inr (Or.inr (Or.inr (Or.inr (Or.inr rfl))))))]
theorem q_nS.fr (h : q_nS G mk hd sp) (e9 : G1 9 = G 9) (e17 : G1 17 = G 17) (fr : ∀ p, q_row p → G1 p = G p) : q_nS G1 mk hd sp := by
  obtain ⟨⟨st, sl, h1⟩, ⟨f, h2, h3⟩, h4, h5⟩ := h
  exact ⟨⟨st, sl, e9.trans h1⟩, ⟨f, e17.trans h2, h3⟩, by rw [q_sum_fr fr]; exact h4, h5⟩
theorem q_TH.rz (h : q_TH N G) (hx : q_ob N G x 6) : 0 ≤ q_rz G x ∧ q_rz G x ≤ 61 := by
  obtain ⟨s, f, e, -, -, h0, h1, -⟩ := h.rw hx
  rw [q_rz.eq e]
  exact ⟨h0, h1⟩
theorem q_Z.row (h : q_Z N G) (hx : q_row x) : q_ob N G x 6 := h.ob x 6 hx.tg (by have := hx.le; omega)
theorem q_uI.pos (h : q_uI N G u c) (hx : q_row x) : 0 ≤ q_rz G x ∧ q_rz G x ≤ 61 := h.1.rz (h.2.1.row hx)
theorem q_uI.pos6 (h : q_uI N G u c) : 0 ≤ q_rz G 18 ∧ 0 ≤ q_rz G 20 ∧ 0 ≤ q_rz G 23 ∧ 0 ≤ q_rz G 25 ∧ 0 ≤ q_rz G 27 ∧ 0 ≤ q_rz G 29 := ⟨(h.pos (Or.inl rfl)).1, (h.pos (Or.inr (Or.inl rfl))).1, (h.pos (Or.inr (Or.inr (Or.inl rfl)))).1, (h.pos (Or.inr (Or.inr (Or.inr (Or.inl rfl))))).1, (h.pos (Or.inr (Or.inr (Or.inr (Or.inr (Or.inl rfl)))))).1, (h.pos (Or.inr (Or.inr (Or.inr (Or.inr (Or.inr rfl)))))).1⟩
/-- a Row's size is at most all that is there -/
theorem q_nI.szl (h : q_nI N G u c mk hd sp) (hx : q_row x) : q_rz G x + (hd : Int) ≤ (mk : Int) := by
  have hp := h.1.pos6
  have hs := h.2.2.2.1
  unfold q_sum at hs
  rcases hx with rfl | rfl | rfl | rfl | rfl | rfl <;> omega
theorem q_NR.rfl' : q_NR N G N G := ⟨q_sl.rfl', fun _ _ _ => rfl, fun _ _ h => h⟩
theorem q_NR.trans (h : q_NR N G N1 G1) (g : q_NR N1 G1 N2 G2) : q_NR N G N2 G2 := by
  refine ⟨h.1.trans g.1, fun p hp hU => ?_, fun p hp hU => h.2.2 p hp (g.2.2 p (Nat.lt_of_lt_of_le hp h.1.1) hU)⟩
  rw [g.2.1 p (Nat.lt_of_lt_of_le hp h.1.1) (fun q => hU (h.2.2 p hp q))]
  exact h.2.1 p hp hU
theorem q_NR.of (h : q_UR N G N1 G1) : q_NR N G N1 G1 := by
  refine ⟨h.1, fun p hp hV => h.2.1 p hp (fun q => hV (Or.inl q)), fun p hp hV => ?_⟩
  by_cases q : q_U G p
  · exact Or.inl q
  · have e := h.2.1 p hp q
    rcases hV with g | g | g | ⟨fs, g⟩ | ⟨f, g⟩
    · exact Or.inl (h.2.2 p hp g)
    · exact Or.inr (Or.inl g)
    · exact Or.inr (Or.inr (Or.inl g))
    · exact Or.inr (Or.inr (Or.inr (Or.inl ⟨fs, e.symm.trans g⟩)))
    · exact Or.inr (Or.inr (Or.inr (Or.inr ⟨f, e.symm.trans g⟩)))
theorem q_NR.up (hl : q_le x (G x) d) (hV : q_V G x) (h12 : x ≠ 12) : q_NR N G N (va_up G x d) := by
  refine ⟨q_sl.up hl, fun p hp hn => va_ne (fun e => hn (e ▸ hV)), fun p hp h => ?_⟩
  by_cases e : p = x
  · rw [e]
    exact hV
  · rcases h with (h | ⟨a, s, m, h, q⟩ | ⟨fs, h⟩ | ⟨f, h⟩) | h | h | ⟨fs, h⟩ | ⟨f, h⟩
    · exact Or.inl (Or.inl h)
    · rw [va_ne (Ne.symm h12)] at h
      exact Or.inl (Or.inr (Or.inl ⟨a, s, m, h, q⟩))
    · rw [va_ne e] at h
      exact Or.inl (Or.inr (Or.inr (Or.inl ⟨fs, h⟩)))
    · rw [va_ne e] at h
      exact Or.inl (Or.inr (Or.inr (Or.inr ⟨f, h⟩)))
    · exact Or.inr (Or.inl h)
    · exact Or.inr (Or.inr (Or.inl h))
    · rw [va_ne e] at h
      exact Or.inr (Or.inr (Or.inr (Or.inl ⟨fs, h⟩)))
    · rw [va_ne e] at h
      exact Or.inr (Or.inr (Or.inr (Or.inr ⟨f, h⟩)))
theorem q_NR.fz {F : Nat → Prop} (hr : q_NR N G N1 G1) (hF : ∀ p, F p → p < N ∧ ¬ q_V G p) : (∀ p, F p → G1 p = G p) ∧ (∀ p, F p → p < N1 ∧ ¬ q_V G1 p) :=
  ⟨fun p q => hr.2.1 p (hF p q).1 (hF p q).2, fun p q => ⟨Nat.lt_of_lt_of_le (hF p q).1 hr.1.1, fun g => (hF p q).2 (hr.2.2 p (hF p q).1 g)⟩⟩
theorem q_fU {F : Nat → Prop} (hF : ∀ p, F p → p < N ∧ ¬ q_V G p) : ∀ p, F p → p < N ∧ ¬ q_U G p := fun p q => ⟨(hF p q).1, fun g => (hF p q).2 (Or.inl g)⟩
theorem q_uI.nUo (h : q_uI N G u c) {p ci : Nat} (e : q_tg p = some ci) (h10 : ci ≠ 10) (hp : p < 10 ∨ 16 < p) : ¬ q_U G p := by
  obtain ⟨gs, eg⟩ := h.2.1.oj p ci e
  intro q
  rcases q with q | ⟨a, s, m, g, q⟩ | ⟨fs, q⟩ | ⟨f, q⟩
  · omega
  · obtain ⟨n, f, g1, -⟩ := h.2.2.2.2.a4 g
    rw [← q.1, eg] at g1
    exact oa_ne g1
  · exact h10 (oC_inj (eg.symm.trans q)).1
  · exact oa_ne (eg.symm.trans q)
theorem q_uI.nU17 (h : q_uI N G u c) : ¬ q_U G 17 := by
  obtain ⟨f0, eg⟩ := h.2.1.a 17 5 4 rfl
  intro q
  rcases q with q | ⟨a, s, m, g, q⟩ | ⟨fs, q⟩ | ⟨f, q⟩
  · omega
  · obtain ⟨n, f, g1, -⟩ := h.2.2.2.2.a4 g
    rw [← q.1, eg] at g1
    exact absurd (aC_inj g1).1 (by decide)
  · exact oa_ne (q.symm.trans eg)
  · exact absurd (aC_inj (eg.symm.trans q)).1 (by decide)
theorem q_nI.ur (h : q_nI N G u c mk hd sp) (hI : q_uI N1 G1 u1 c1) (r : q_UR N G N1 G1) : q_nI N1 G1 u1 c1 mk hd sp := by
  have h64 := h.1.2.1.1
  refine ⟨hI, h.2.fr (r.2.1 9 (by omega) (h.1.nUo rfl (by decide) (by decide))) (r.2.1 17 (by omega) h.1.nU17) (fun p hp => r.2.1 p (by have := hp.le; omega) (h.1.nUo hp.tg (by decide) (by have := hp.le; omega)))⟩
/-- a cell that is no Row and none of the single places: a Goal, a list of what a Goal awaits -/
theorem q_nI.up (h : q_nI N G u c mk hd sp) (hl : q_le x (G x) d) (hc : q_sl N G N (va_up G x d) → q_ok N (va_up G x d) x d) (hx : (∃ fs, G x = oC 11 fs) ∨ (∃ f, G x = aC 6 12 f)) : q_nI N (va_up G x d) u c mk hd sp ∧ q_NR N G N (va_up G x d) := by
  have hne : ∀ p ci, q_tg p = some ci → ci ≠ 11 → x ≠ p := by
    intro p ci e h11 q
    obtain ⟨gs, eg⟩ := h.1.2.1.oj p ci e
    rw [← q] at eg
    rcases hx with ⟨fs, g⟩ | ⟨f, g⟩
    · exact h11 (oC_inj (eg.symm.trans g)).1
    · exact oa_ne (eg.symm.trans g)
  have h17 : x ≠ 17 := by
    intro q
    obtain ⟨f0, eg⟩ := h.1.2.1.a 17 5 4 rfl
    rw [← q] at eg
    rcases hx with ⟨fs, g⟩ | ⟨f, g⟩
    · exact oa_ne (g.symm.trans eg)
    · exact absurd (aC_inj (eg.symm.trans g)).1 (by decide)
  refine ⟨⟨h.1.up hl hc (hne 10 3 rfl (by decide)) (hne 11 4 rfl (by decide)) (hne 12 13 rfl (by decide)) (hne 13 5 rfl (by decide)) (fun n f g => ?_), h.2.fr (va_ne (Ne.symm (hne 9 2 rfl (by decide)))) (va_ne (Ne.symm h17)) (fun p hp => va_ne (Ne.symm (hne p 6 hp.tg (by decide))))⟩, q_NR.up hl (Or.inr (Or.inr (Or.inr hx))) (hne 12 13 rfl (by decide))⟩
  rcases hx with ⟨fs, g'⟩ | ⟨f', g'⟩
  · exact oa_ne (g'.symm.trans g)
  · exact absurd (aC_inj (g'.symm.trans g)).1 (by decide)
theorem q_nI.n9 {st sp0 sl : Int32} (h : q_nI N G u c mk hd sp0) : q_nI N (va_up G 9 (oC 2 [.ref 10, .ref 17, .ref 18, .ref 20, .ref 22, .int st, .int sp, .int sl])) u c mk hd sp ∧ q_NR N G N (va_up G 9 (oC 2 [.ref 10, .ref 17, .ref 18, .ref 20, .ref 22, .int st, .int sp, .int sl])) := by
  obtain ⟨gs, e⟩ := h.1.2.1.oj 9 2 rfl
  have hle : q_le 9 (G 9) (oC 2 [.ref 10, .ref 17, .ref 18, .ref 20, .ref 22, .int st, .int sp, .int sl]) := q_le.ob e (by decide)
  refine ⟨⟨h.1.up hle (fun _ => q_ok.ot (by decide) (by decide) (by decide)) (by decide) (by decide) (by decide) (by decide) (fun n f g => oa_ne (e.symm.trans g)), ⟨st, sl, up_eq⟩, ?_, ?_, h.2.2.2.2⟩, q_NR.up hle (Or.inr (Or.inl rfl)) (by decide)⟩
  · obtain ⟨f, g1, g2⟩ := h.2.2.1
    exact ⟨f, (va_ne (by decide)).trans g1, g2⟩
  · rw [q_sum_fr (G := G) (fun p hp => va_ne (by have := hp.le; omega))]
    exact h.2.2.2.1
/-- a Row's array -/
theorem q_uI.ra (h : q_uI N G u c) {k y : Nat} {f : Nat → Option Nat} (hx : q_row x) (e : G (x + 1) = aC 7 61 f) (hy : q_og N G (some y)) : q_uI N (va_up G (x + 1) (aC 7 61 (va_up f k (some y)))) u c ∧ q_NR N G N (va_up G (x + 1) (aC 7 61 (va_up f k (some y)))) ∧ q_nn N (va_up G (x + 1) (aC 7 61 (va_up f k (some y)))) (x + 1) k := by
  have hle : q_le (x + 1) (G (x + 1)) (aC 7 61 (va_up f k (some y))) := q_le.a e
  have h64 := h.2.1.1
  have hb := hx.le
  have n22 : x + 1 ≠ 22 := by
    intro q
    obtain ⟨f2, e2⟩ := h.2.1.a 22 6 26 rfl
    rw [← q] at e2
    exact absurd (aC_inj (e.symm.trans e2)).1 (by decide)
  refine ⟨h.up hle (fun s => q_ok.a7 (fun j => ?_)) (by omega) (by omega) (by omega) (by omega) (fun n1 f1 q => absurd (aC_inj (e.symm.trans q)).1 (by decide)), q_NR.up hle (Or.inr (Or.inr (Or.inl (by omega)))) (by omega), n22, by omega, 7, 61, _, y, up_eq, Or.inr rfl, up_eq⟩
  have hf := (h.1 (x + 1) (by omega) (by omega)).2.2.2.2 61 f e
  by_cases q : j = k
  · rw [q, up_eq]
    exact hy.sl s
  · rw [va_ne q]
    exact (hf j).sl s
/-- a Row's size -/
theorem q_uI.ru (h : q_uI N G u c) {s : Int32} (hx : q_row x) (h0 : 0 ≤ s.toInt) (h1 : s.toInt ≤ 61) (hs : ∀ i : Nat, (i : Int) < s.toInt → q_nn N G (x + 1) i) : q_uI N (va_up G x (oC 6 [.ref (x + 1), .int s])) u c ∧ q_NR N G N (va_up G x (oC 6 [.ref (x + 1), .int s])) := by
  obtain ⟨s0, f, e, g1, g2, -⟩ := h.1.rw (h.2.1.row hx)
  have hle : q_le x (G x) (oC 6 [.ref (x + 1), .int s]) := q_le.ob e (by decide)
  have hb := hx.le
  exact ⟨h.up hle (fun sl => q_ok.R ⟨s, rfl, g1, sl.ar g1 ⟨f, g2⟩, h0, h1, fun i hi => (hs i hi).sl sl⟩) (by omega) (by omega) (by omega) (by omega) (fun n1 f1 q => oa_ne (e.symm.trans q)), q_NR.up hle (Or.inr (Or.inr (Or.inl (by omega)))) (by omega)⟩
/-- a Goal goes to a Row's end -/
theorem q_nI.app (h : q_nI N G u c mk (hd + 1) sp) {s : Int32} {f : Nat → Option Nat} (hx : q_row x) (e : G x = oC 6 [.ref (x + 1), .int s]) (ea : G (x + 1) = aC 7 61 f) (hy : q_og N G (some y)) : s.toInt < 61 ∧ 0 ≤ s.toInt ∧ q_nI N (va_up (va_up G (x + 1) (aC 7 61 (va_up f s.toNatClampNeg (some y)))) x (oC 6 [.ref (x + 1), .int (s + 1)])) u c mk hd sp ∧ q_NR N G N (va_up (va_up G (x + 1) (aC 7 61 (va_up f s.toNatClampNeg (some y)))) x (oC 6 [.ref (x + 1), .int (s + 1)])) := by
  obtain ⟨s0, f0, e0, g1, g2, g3, g4, g5, g6, g7⟩ := h.1.1.rw (h.1.2.1.row hx)
  have es : s0 = s := by
    have := (oC_inj (e0.symm.trans e)).2
    cases this
    rfl
  subst es
  have hl := h.szl hx
  have hmk := h.2.2.2.2
  rw [q_rz.eq e] at hl
  have hlt : s0.toInt < 61 := by omega
  obtain ⟨i1, r1, m1⟩ := h.1.ra (k := s0.toNatClampNeg) hx ea hy
  have e1 : (s0 + 1).toInt = s0.toInt + 1 := i32_succ g3 (by omega)
  obtain ⟨i2, r2⟩ := i1.ru (s := s0 + 1) hx (by omega) (by omega) (fun i hi => by
    by_cases q : (i : Int) < s0.toInt
    · exact (g7 i q).sl r1.1
    · have : i = s0.toNatClampNeg := by
        show i = s0.toInt.toNat
        omega
      rw [this]
      exact m1)
  have hb := hx.le
  refine ⟨hlt, g3, ⟨i2, ?_, ?_, ?_, hmk⟩, r1.trans r2⟩
  · obtain ⟨st, sl, q⟩ := h.2.1
    exact ⟨st, sl, (va_ne (by omega)).trans ((va_ne (by omega)).trans q)⟩
  · obtain ⟨f', q1, q2⟩ := h.2.2.1
    exact ⟨f', (va_ne (by omega)).trans ((va_ne (by omega)).trans q1), q2⟩
  · have hsum := q_sum_row (G := G) (G1 := va_up (va_up G (x + 1) (aC 7 61 (va_up f s0.toNatClampNeg (some y)))) x (oC 6 [.ref (x + 1), .int (s0 + 1)])) (k := 1) hx (fun p h1 h2 => (va_ne h1).trans (va_ne h2)) (by rw [q_rz.eq (s := s0 + 1) up_eq, q_rz.eq e, e1])
    have := h.2.2.2.1
    omega
theorem j_take16 {p1 s : Int32} (hx : q_row x) : ∀ (k : Nat) (p3 : Int32) (G : Nat → sx_C), q_uI N G u c → G x = oC 6 [.ref (x + 1), .int s] → p3.toInt + (k : Int) = s.toInt → 1 ≤ p3.toInt → (∀ G1, q_uI N G1 u c → q_NR N G N G1 → (∀ p, p ≠ x → p ≠ x + 1 → G1 p = G p) → G1 x = oC 6 [.ref (x + 1), .int (s - 1)] → K (.inl (some (.ref y))) N G1 0 0) → cT 2 sM_50 16 [(0, .ref x), (1, .int p1), (2, .ref y), (3, .int p3)] [] N G K := by
  intro k
  induction k with
  | zero =>
    intro p3 G h e hk h1 hK
    have h64 := h.2.1.1
    have hb := hx.le
    obtain ⟨s0, f0, e0, g1, g2, g3, g4, g5, g6, g7⟩ := h.1.rw (h.2.1.row hx)
    have es : s0 = s := by
      have := (oC_inj (e0.symm.trans e)).2
      cases this
      rfl
    subst es
    refine k_50_16 ⟨by omega, by omega, s0, e, fun _ => ?_, fun q => by omega⟩
    obtain ⟨s1, es1, hs1⟩ := i32_m1 (x := s0) (by omega) (by omega)
    obtain ⟨i1, r1⟩ := h.ru (s := s0 - 1) hx (by rw [es1]; omega) (by rw [es1]; omega) (fun i hi => g7 i (by rw [es1] at hi; omega))
    exact hK _ i1 r1 (fun p h1 h2 => va_ne h1) up_eq
  | succ k ih =>
    intro p3 G h e hk h1 hK
    have h64 := h.2.1.1
    have hb := hx.le
    obtain ⟨s0, f0, e0, g1, g2, g3, g4, g5, g6, g7⟩ := h.1.rw (h.2.1.row hx)
    have es : s0 = s := by
      have := (oC_inj (e0.symm.trans e)).2
      cases this
      rfl
    subst es
    have ec : p3.toNatClampNeg = p3.toInt.toNat := rfl
    obtain ⟨z, z1, z2⟩ := g5 p3.toInt.toNat (by omega)
    obtain ⟨a1, a2, a3, a4, a5, a6, a7, a8, -⟩ := h.1.go z2.ob
    obtain ⟨q, eq, hq⟩ := i32_m1 (x := p3) (by omega) (by omega)
    refine k_50_16 ⟨by omega, by omega, s0, e, fun q => by omega, fun _ => ⟨by omega, g1, f0, g2, by omega, by omega, z, by rw [ec]; exact z1, ?_⟩⟩
    rw [eq]
    obtain ⟨i1, r1, m1⟩ := h.ra (k := q.toNatClampNeg) hx g2 z2
    refine ⟨by omega, by omega, z2.ob.1, z2.ob.2.1, a1, a2, a3, a4, a5, a6, a8, ?_⟩
    refine ih (p3 + 1) _ i1 ((va_ne (by omega)).trans e) (by rw [i32_succ (by omega) (by omega)]; omega) (by rw [i32_succ (by omega) (by omega)]; omega) (fun G1 t1 t2 t3 t4 => hK G1 t1 (r1.trans t2) (fun p h1 h2 => (t3 p h1 h2).trans (va_ne h2)) t4)
theorem j_take {p1 s : Int32} (h : q_nI N G u c mk hd sp) (hx : q_row x) (e : G x = oC 6 [.ref (x + 1), .int s]) (h0 : 0 ≤ p1.toInt) (h1 : p1.toInt < s.toInt) (hK : ∀ G1 y f, G (x + 1) = aC 7 61 f → f p1.toNatClampNeg = some y → q_nI N G1 u c mk (hd + 1) sp → q_NR N G N G1 → (∀ p, p ≠ x → p ≠ x + 1 → G1 p = G p) → G1 x = oC 6 [.ref (x + 1), .int (s - 1)] → q_og N G1 (some y) → K (.inl (some (.ref y))) N G1 0 0) : cT 2 sM_50 0 [(0, .ref x), (1, .int p1)] [] N G K := by
  have h64 := h.1.2.1.1
  have hb := hx.le
  obtain ⟨s0, f0, e0, g1, g2, g3, g4, g5, g6, g7⟩ := h.1.1.rw (h.1.2.1.row hx)
  have es : s0 = s := by
    have := (oC_inj (e0.symm.trans e)).2
    cases this
    rfl
  subst es
  obtain ⟨z, z1, z2⟩ := g5 p1.toInt.toNat (by omega)
  refine k_50_0 ⟨by omega, by omega, s0, e, fun q => by omega, fun _ => ⟨fun q => by omega, fun _ => ⟨by omega, g1, f0, g2, h0, by omega, z, z1, ?_⟩⟩⟩
  have e1 : (p1 + 1).toInt = p1.toInt + 1 := i32_succ h0 (by omega)
  refine j_take16 hx (s0.toInt - p1.toInt - 1).toNat (p1 + 1) G h.1 e (by omega) (by omega) (fun G1 t1 t2 t3 t4 => ?_)
  refine hK G1 z f0 g2 z1 ⟨t1, ?_, ?_, ?_, h.2.2.2.2⟩ t2 t3 t4 (z2.sl t2.1)
  · obtain ⟨st, sl, q⟩ := h.2.1
    exact ⟨st, sl, (t3 9 (by omega) (by omega)).trans q⟩
  · obtain ⟨f', q1, q2⟩ := h.2.2.1
    exact ⟨f', (t3 17 (by omega) (by omega)).trans q1, q2⟩
  · obtain ⟨s1, es1, hs1⟩ := i32_m1 (x := s0) (by omega) (by omega)
    have hsum := q_sum_row (G := G) (G1 := G1) (k := -1) hx t3 (by rw [q_rz.eq t4, q_rz.eq e, es1]; omega)
    have := h.2.2.2.1
    omega
theorem j_gir {r : Int32} (h : q_nI N G u c mk hd sp) (hK : ∀ v : Int32, v.toInt = q_rz G 23 + q_rz G 25 + q_rz G 27 + q_rz G 29 → K (.inl (some (.int v))) N G 0 0) : cT 2 sM_10 0 [(0, .ref 9)] [] N G K := by
  have h64 := h.1.2.1.1
  obtain ⟨st, sl, e9⟩ := h.2.1
  obtain ⟨f, e17, hf⟩ := h.2.2.1
  have h3 := h.1.pos (x := 23) (Or.inr (Or.inr (Or.inl rfl)))
  have h5 := h.1.pos (x := 25) (Or.inr (Or.inr (Or.inr (Or.inl rfl))))
  have h7 := h.1.pos (x := 27) (Or.inr (Or.inr (Or.inr (Or.inr (Or.inl rfl)))))
  have h9 := h.1.pos (x := 29) (Or.inr (Or.inr (Or.inr (Or.inr (Or.inr rfl)))))
  have o3 := h.1.1.rw (h.1.2.1.row (x := 23) (Or.inr (Or.inr (Or.inl rfl))))
  have o5 := h.1.1.rw (h.1.2.1.row (x := 25) (Or.inr (Or.inr (Or.inr (Or.inl rfl)))))
  have o7 := h.1.1.rw (h.1.2.1.row (x := 27) (Or.inr (Or.inr (Or.inr (Or.inr (Or.inl rfl))))))
  have o9 := h.1.1.rw (h.1.2.1.row (x := 29) (Or.inr (Or.inr (Or.inr (Or.inr (Or.inr rfl))))))
  obtain ⟨s3, -, e3, -⟩ := o3
  obtain ⟨s5, -, e5, -⟩ := o5
  obtain ⟨s7, -, e7, -⟩ := o7
  obtain ⟨s9, -, e9', -⟩ := o9
  rw [q_rz.eq e3] at h3
  rw [q_rz.eq e5] at h5
  rw [q_rz.eq e7] at h7
  rw [q_rz.eq e9'] at h9
  rw [q_rz.eq e3, q_rz.eq e5, q_rz.eq e7, q_rz.eq e9'] at hK
  have a1 : (0 + s3).toInt = s3.toInt := i32_add (by show 0 + _ = _; omega) (by omega) (by omega)
  have a2 : (0 + s3 + s5).toInt = s3.toInt + s5.toInt := i32_add (by rw [a1]) (by omega) (by omega)
  have a3 : (0 + s3 + s5 + s7).toInt = s3.toInt + s5.toInt + s7.toInt := i32_add (by rw [a2]) (by omega) (by omega)
  have a4 : (0 + s3 + s5 + s7 + s9).toInt = s3.toInt + s5.toInt + s7.toInt + s9.toInt := i32_add (by rw [a3]) (by omega) (by omega)
  refine k_10_0 (k_10_4 ⟨fun q => absurd q (by decide), fun _ => ⟨by omega, st, sp, sl, e9, by omega, f, e17, (by decide), (by decide), 23, hf 0 (by decide), by omega, by omega, s3, e3, ?_⟩⟩)
  refine k_10_4 ⟨fun q => absurd q (by decide), fun _ => ⟨by omega, st, sp, sl, e9, by omega, f, e17, (by decide), (by decide), 25, hf 1 (by decide), by omega, by omega, s5, e5, ?_⟩⟩
  refine k_10_4 ⟨fun q => absurd q (by decide), fun _ => ⟨by omega, st, sp, sl, e9, by omega, f, e17, (by decide), (by decide), 27, hf 2 (by decide), by omega, by omega, s7, e7, ?_⟩⟩
  refine k_10_4 ⟨fun q => absurd q (by decide), fun _ => ⟨by omega, st, sp, sl, e9, by omega, f, e17, (by decide), (by decide), 29, hf 3 (by decide), by omega, by omega, s9, e9', ?_⟩⟩
  exact k_10_4 ⟨fun _ => hK _ a4, fun q => absurd q (by decide)⟩
theorem j_awaits2 (hT : q_TH N G) (hx : q_ob N G x 11) (hy : q_ob N G y 10) (hK : ∀ v : Int32, K (.inl (some (.int v))) N G 0 0) : ∀ (k : Nat) (p2 : Int32), 0 ≤ p2.toInt → p2.toInt + (k : Int) = 12 → cT 1 sM_90 2 [(0, .ref x), (1, .ref y), (2, .int p2)] [] N G K := by
  have x5 := hx.1
  have y5 := hy.1
  obtain ⟨sg, l, o1, o2, o3, w, f, e, g1, g2, ⟨g3, g4⟩, -, -, -, -, -, g6⟩ := hT.go hx
  intro k
  induction k with
  | zero =>
    intro p2 h0 hk
    exact k_90_2 ⟨hx.1, hx.2.1, sg, l, o1, o2, o3, w, e, fun _ => hK 0, fun q => by omega⟩
  | succ k ih =>
    intro p2 h0 hk
    have e1 : (p2 + 1).toInt = p2.toInt + 1 := i32_succ h0 (by omega)
    have again := ih (p2 + 1) (by omega) (by omega)
    refine k_90_2 ⟨hx.1, hx.2.1, sg, l, o1, o2, o3, w, e, fun _ => hK 0, fun _ => ⟨by omega, g1, f, g2, h0, by omega, fun o5 eo => ⟨fun _ => ⟨by omega, again⟩, fun x6 e6 => ?_⟩⟩⟩
    have hx6 := g6 p2.toNatClampNeg x6 (eo.symm.trans e6)
    have x65 := hx6.1
    exact ⟨by omega, by omega, fun _ => hK 1, fun _ => again⟩
theorem j_awaits (hT : q_TH N G) (hx : q_ob N G x 11) (hy : q_ob N G y 10) (hK : ∀ v : Int32, K (.inl (some (.int v))) N G 0 0) : cT 1 sM_90 0 [(0, .ref x), (1, .ref y)] [] N G K := k_90_0 (j_awaits2 hT hx hy hK 12 0 (by decide) rfl)
theorem j_await (h : q_nI N G u c mk hd sp) (hx : q_og N G (some x)) (hy : q_ob N G y 10) (hK : ∀ G1, q_nI N G1 u c mk hd sp → q_NR N G N G1 → K (.inl none) N G1 0 0) : cT 2 sM_89 0 [(0, .ref x), (1, .ref y)] [] N G K := by
  have ox := hx.ob
  obtain ⟨sg, l, o1, o2, o3, w, f, e, g1, g2, ⟨g3, g4⟩, g5, g6, g7, g8, g9, g10⟩ := h.1.1.go ox
  obtain ⟨a1, a2, a3, a4, -, b1, -⟩ := h.1.1.nd hy
  refine k_89_0 ⟨ox.1, ox.2.1, sg, l, o1, o2, o3, w, e, j_awaits h.1.1 ox hy (fun v => ⟨rfl, rfl, rfl, rfl, v, rfl, fun _ => hK G h q_NR.rfl', fun _ => ⟨fun _ => hK G h q_NR.rfl', fun hlt => ⟨by have := ox.1; omega, g1, f, g2, g3, by omega, hy.1, hy.2.1, a1, a2, a3, a4, b1, ?_⟩⟩⟩)⟩
  obtain ⟨i1, r1⟩ := h.up (x := x + 1) (d := aC 6 12 (va_up f w.toNatClampNeg (some y))) (q_le.a g2) (fun s => q_ok.a6 (fun j => by
    by_cases q : j = w.toNatClampNeg
    · rw [q, up_eq]
      exact q_oo.some (hy.sl s)
    · rw [va_ne q]
      exact (g10 j).sl s)) (Or.inr ⟨f, g2⟩)
  have e1 : (va_up G (x + 1) (aC 6 12 (va_up f w.toNatClampNeg (some y)))) x = oC 11 [.int sg, .int l, va_rf o1, va_rf o2, va_rf o3, .ref (x + 1), .int w] := (va_ne (by omega)).trans e
  have ew : (w + 1).toInt = w.toInt + 1 := i32_succ g3 (by omega)
  have s1 := r1.1
  obtain ⟨i2, r2⟩ := i1.up (x := x) (d := oC 11 [.int sg, .int l, va_rf o1, va_rf o2, va_rf o3, .ref (x + 1), .int (w + 1)]) (q_le.g e1 (fun q => q_gl.of q.to)) (fun s => q_ok.go ⟨sg, l, o1, o2, o3, w + 1, rfl, g1, (s1.trans s).ar g1 ⟨f, g2⟩, ⟨by omega, by omega⟩, g5, (g6.sl s1).sl s, (g7.sl s1).sl s, (g8.sl s1).sl s, g9⟩) (Or.inl ⟨_, e1⟩)
  exact hK _ i2 (r1.trans r2)
end QR
