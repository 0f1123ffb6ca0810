/-! leaf, build: TERMS of a text come to be as cells -/
def lq (T : Nat → Int32) (n p : Nat) : Nat := if (48 ≤ gC T n p ∧ gC T n p ≤ 57) ∧ (48 ≤ gC T n (p + 1) ∧ gC T n (p + 1) ≤ 57) then p + 2 else p + 1
def isU (T : Nat → Int32) (n p : Nat) : Prop := 65 ≤ gC T n p ∧ gC T n p ≤ 90
/-- cells below c are as they were -/
def cU (a a1 : Nat → Nat → Int32) (c : Nat) : Prop := (∀ t, t < c → a1 14 t = a 14 t ∧ a1 15 t = a 15 t) ∧ ∀ i, i < c * 3 → a1 16 i = a 16 i
section BD
variable {v v1 : Nat → Int32} {a a1 a2 : Nat → Nat → Int32} {T : Nat → Int32} {b n p q c w c1 : Nat} {K : Int32 → (Nat → Int32) → (Nat → Nat → Int32) → Prop}
theorem cU.rfl' : cU a a c := ⟨fun _ _ => ⟨rfl, rfl⟩, fun _ _ => rfl⟩
theorem cU.trans (h : cU a a1 c) (g : cU a1 a2 c) : cU a a2 c := ⟨fun t ht => ⟨(g.1 t ht).1.trans (h.1 t ht).1, (g.1 t ht).2.trans (h.1 t ht).2⟩, fun i hi => (g.2 i hi).trans (h.2 i hi)⟩
theorem cU.mono (h : cU a a1 c) {e : Nat} (he : e ≤ c) : cU a a1 e := ⟨fun t ht => h.1 t (by omega), fun i hi => h.2 i (by omega)⟩
theorem g_new (hg : gr a c w) (e15 : ∀ t, t < c → a1 15 t = a 15 t) (e0 : (a1 15 c).toInt = 0) (e16 : ∀ i, i < c * 3 → a1 16 i = a 16 i) (e17 : a1 17 = a 17) : gr a1 (c + 1) w := by
  refine ⟨fun t ht => ?_, fun x hx => ?_⟩
  · by_cases e : t = c
    · subst e
      exact ⟨by omega, by omega, fun i hi => by omega⟩
    · obtain ⟨h1, h2, h3⟩ := hg.1 t (by omega)
      rw [e15 t (by omega)]
      refine ⟨h1, h2, fun i hi => ?_⟩
      rw [e16 _ (by omega)]
      exact (h3 i hi).mono (by omega) (by omega)
  · rw [e17]
    exact (hg.2 x hx).imp id (fun h => ⟨h.1, by omega⟩)
theorem g_hang {f : Nat} {r : Int32} (hg : gr a c w) (hf : f < c) (h2 : (a 15 f).toInt ≤ 2) (hr : rf c w r) (e15 : ∀ t, t ≠ f → a1 15 t = a 15 t) (ef : (a1 15 f).toInt = (a 15 f).toInt + 1) (e16 : ∀ i, i ≠ f * 3 + (a 15 f).toInt.toNat → a1 16 i = a 16 i) (er : a1 16 (f * 3 + (a 15 f).toInt.toNat) = r) (e17 : a1 17 = a 17) : gr a1 c w := by
  refine ⟨fun t ht => ?_, fun x hx => ?_⟩
  · by_cases e : t = f
    · subst e
      obtain ⟨h1, h2, h3⟩ := hg.1 t (by omega)
      refine ⟨by omega, by omega, fun i hi => ?_⟩
      by_cases ei : i = (a 15 t).toInt.toNat
      · subst ei
        rw [er]
        exact hr
      · rw [e16 _ (by omega)]
        exact h3 i (by omega)
    · obtain ⟨h1, h2, h3⟩ := hg.1 t (by omega)
      obtain ⟨g1, g2, -⟩ := hg.1 f hf
      rw [e15 t e]
      refine ⟨h1, h2, fun i hi => ?_⟩
      rw [e16 _ (by omega)]
      exact h3 i hi
  · rw [e17]
    exact hg.2 x hx
def lfP (v : Nat → Int32) (a : Nat → Nat → Int32) (T : Nat → Int32) (b n p c w : Nat) (r : Int32) (v1 : Nat → Int32) (a1 : Nat → Nat → Int32) (c1 : Nat) : Prop :=
  tV v1 a1 T b n (lq T n p) ∧ gr a1 c1 w ∧ (v1 37).toInt = (c1 : Int) ∧ c ≤ c1 ∧ c1 ≤ c + 1 ∧ rf c1 w r ∧ cU a a1 c ∧ (∀ j, j ≠ 12 → j ≠ 37 → v1 j = v j) ∧ (∀ j, j ≠ 14 → j ≠ 15 → j ≠ 16 → a1 j = a j) ∧ (¬ isU T n p → c1 = c + 1 ∧ r.toInt = (c : Int) ∧ (a1 15 c).toInt = 0)
theorem i32_ss {x : Int32} (h0 : 0 ≤ x.toInt) (h1 : x.toInt ≤ 1000000) : (x + 1 - 1).toInt = x.toInt :=
  i32_sub (by rw [i32_succ h0 h1, show ((1 : Int32)).toInt = 1 from by decide]; omega) (by omega) (by omega)
theorem c_leaf (tv : tV v a T b n p) (hk : (97 ≤ gC T n p ∧ gC T n p ≤ 122) ∨ isU T n p ∨ (48 ≤ gC T n p ∧ gC T n p ≤ 57)) (hg : gr a c w) (h37 : (v 37).toInt = (c : Int)) (hc : c < 26000) (hU : isU T n p → rf c w (a 5 (gC T n p - 65).toNat)) (hK : ∀ r v1 a1 c1, lfP v a T b n p c w r v1 a1 c1 → K r v1 a1) : mT 2 sM_126 0 [(0, .ref 33)] [] v a K := by
  have hn : p < n := gC_lt (T := T) (by rcases hk with h | h | h <;> first | omega | (have := h.1; have := h.2; omega))
  have ea := tv.at
  have ea2 := tv.at2 (x := v 12 + 1)
  have e1 := tv.e1
  have es : (v 37 + 1 - 1).toInt = (c : Int) := (i32_ss (by omega) (by omega)).trans h37
  have t3 : ((3 : Int32)).toInt = 3 := by decide
  have em : ((v 37 + 1 - 1) * 3).toInt = (c : Int) * 3 := i32_mul (by rw [es, t3]) (by omega) (by omega)
  have ec1 : (v 37 + 1).toInt = ((c + 1 : Nat) : Int) := by
    rw [i32_succ (by omega) (by omega)]
    omega
  have tv1 := tv.nx (by omega)
  refine r_126_0 ⟨tv.b0, tv.b6, fun u1 u2 => ?_, fun u => ⟨fun d1 d2 => ⟨by omega, tv.b6, fun d3 d4 => ⟨by omega, tv.b6, by omega, by omega, by omega, by omega, by omega, by omega, ?_⟩, fun d3 => ⟨by omega, by omega, by omega, by omega, by omega, by omega, ?_⟩⟩, fun d => ⟨by omega, by omega, by omega, by omega, ?_⟩⟩⟩
  · rw [ea] at u1 u2
    have ei : (m_at v a (v 12) - 65).toInt = (((gC T n p - 65).toNat : Nat) : Int) := i32_sub (by rw [ea, show ((65 : Int32)).toInt = 65 from by decide]; omega) (by omega) (by omega)
    have hlq : lq T n p = p + 1 := if_neg (fun z => by have := z.1.2; omega)
    rw [i32_cl ei]
    refine ⟨by omega, by omega, hK _ _ a c ⟨?_, hg, h37, by omega, by omega, hU ⟨u1, u2⟩, cU.rfl', fun j h1 _ => va_ne h1, fun _ _ _ _ => rfl, fun z => absurd ⟨u1, u2⟩ z⟩⟩
    rw [hlq]
    exact tv1
  · rw [ea] at u d1 d2
    rw [ea2] at d3 d4
    have hlq : lq T n p = p + 2 := if_pos ⟨⟨d1, d2⟩, d3, d4⟩
    have hn2 : p + 1 < n := gC_lt (T := T) (by omega)
    rw [i32_cl h37, i32_cl (i := c * 3) (em.trans (by omega))]
    refine hK _ _ _ (c + 1) ⟨?_, ?_, ec1, by omega, by omega, ⟨by omega, by omega⟩, ?_, fun j h1 h2 => (va_ne h2).trans (va_ne h1), fun j h1 h2 h3 => (va_ne h3).trans ((va_ne h2).trans (va_ne h1)), fun _ => ⟨rfl, es, ?_⟩⟩
    · rw [hlq]
      have := (tv1.nx (v := va_up v 12 (v 12 + 1)) (by omega))
      exact ⟨this.1, tv.2.1, by omega, tv.2.2.2.1, tv.2.2.2.2⟩
    · exact g_new hg (fun t ht => ud_ne (by omega)) (by show (upd (a 15) c 0 c).toInt = 0; rw [ud_eq]; decide) (fun i hi => ud_ne (by omega)) rfl
    · exact ⟨fun t ht => ⟨ud_ne (by omega), ud_ne (by omega)⟩, fun i hi => ud_ne (by omega)⟩
    · show (upd (a 15) c 0 c).toInt = 0
      rw [ud_eq]
      decide
  · rw [ea] at u d1 d2
    rw [ea2] at d3
    have hlq : lq T n p = p + 1 := if_neg (fun z => by have := z.2.1; have := z.2.2; omega)
    rw [i32_cl h37, i32_cl (i := c * 3) (em.trans (by omega))]
    refine hK _ _ _ (c + 1) ⟨?_, ?_, ec1, by omega, by omega, ⟨by omega, by omega⟩, ?_, fun j h1 h2 => (va_ne h2).trans (va_ne h1), fun j h1 h2 h3 => (va_ne h3).trans ((va_ne h2).trans (va_ne h1)), fun _ => ⟨rfl, es, ?_⟩⟩
    · rw [hlq]
      exact ⟨tv1.1, tv.2.1, by omega, tv.2.2.2.1, tv.2.2.2.2⟩
    · exact g_new hg (fun t ht => ud_ne (by omega)) (by show (upd (a 15) c 0 c).toInt = 0; rw [ud_eq]; decide) (fun i hi => ud_ne (by omega)) rfl
    · exact ⟨fun t ht => ⟨ud_ne (by omega), ud_ne (by omega)⟩, fun i hi => ud_ne (by omega)⟩
    · show (upd (a 15) c 0 c).toInt = 0
      rw [ud_eq]
      decide
  · rw [ea] at u d
    have hlq : lq T n p = p + 1 := if_neg (fun z => by have := z.1.1; have := z.1.2; omega)
    rw [i32_cl h37]
    refine hK _ _ _ (c + 1) ⟨?_, ?_, ec1, by omega, by omega, ⟨by omega, by omega⟩, ?_, fun j h1 h2 => (va_ne h2).trans (va_ne h1), fun j h1 h2 h3 => (va_ne h2).trans (va_ne h1), fun _ => ⟨rfl, es, ?_⟩⟩
    · rw [hlq]
      exact ⟨tv1.1, tv.2.1, by omega, tv.2.2.2.1, tv.2.2.2.2⟩
    · exact g_new hg (fun t ht => ud_ne (by omega)) (by show (upd (a 15) c 0 c).toInt = 0; rw [ud_eq]; decide) (fun i hi => rfl) rfl
    · exact ⟨fun t ht => ⟨ud_ne (by omega), ud_ne (by omega)⟩, fun i hi => rfl⟩
    · show (upd (a 15) c 0 c).toInt = 0
      rw [ud_eq]
      decide
/-- what build has done when it stands behind a part: k brackets open -/
def bP (v : Nat → Int32) (a : Nat → Nat → Int32) (T : Nat → Int32) (b n p q c w k : Nat) (r : Int32) (v1 : Nat → Int32) (a1 : Nat → Nat → Int32) (c1 : Nat) : Prop :=
  tV v1 a1 T b n q ∧ gr a1 c1 w ∧ (v1 37).toInt = (c1 : Int) ∧ c ≤ c1 ∧ c1 + p ≤ c + q ∧ rf c1 w r ∧ (∀ j, j ≠ 12 → j ≠ 37 → v1 j = v j) ∧ (∀ j, j ≠ 3 → j ≠ 14 → j ≠ 15 → j ≠ 16 → a1 j = a j) ∧ (∀ j, j ≤ k → a1 3 j = a 3 j) ∧
  (∀ t, t < c → (1 ≤ k → (t : Int) ≠ (a 3 k).toInt) → a1 15 t = a 15 t) ∧ (∀ f : Nat, 1 ≤ k → (a 3 k).toInt = (f : Int) → (a1 15 f).toInt = (a 15 f).toInt + 1) ∧ (∀ e, e ≤ c → (1 ≤ k → (e : Int) ≤ (a 3 k).toInt) → cU a a1 e) ∧ (¬ isU T n p → r.toInt = (c : Int) ∧ c + 1 ≤ c1)
theorem lq_bd : p + 1 ≤ lq T n p ∧ lq T n p ≤ p + 2 := by
  unfold lq
  split <;> omega
theorem c_b2 {k : Nat} {p1 : Int32} (hp1 : p1.toInt = (k : Int)) (hk5 : k ≤ 5) (tv : tV v a T b n p) (hk : (97 ≤ gC T n p ∧ gC T n p ≤ 122) ∨ isU T n p ∨ (48 ≤ gC T n p ∧ gC T n p ≤ 57)) (hg : gr a c w) (h37 : (v 37).toInt = (c : Int)) (hc : c < 26000) (hU : isU T n p → rf c w (a 5 (gC T n p - 65).toNat))
    (hop : 1 ≤ k → ∃ f : Nat, (a 3 k).toInt = (f : Int) ∧ f < c ∧ (a 15 f).toInt ≤ 2) (hK : ∀ r lo v1 a1 c1, (lo.toInt = 0 ↔ ¬ (97 ≤ gC T n p ∧ gC T n p ≤ 122)) → bP v a T b n p (lq T n p) c w k r v1 a1 c1 → a1 3 = a 3 → c1 ≤ c + 1 → (¬ isU T n p → c1 = c + 1 ∧ (a1 15 c).toInt = 0) → mT 3 sM_124 33 [(0, .ref 33), (1, .int p1), (2, .int lo), (3, .int r)] [] v1 a1 K) : mT 3 sM_124 2 [(0, .ref 33), (1, .int p1)] [] v a K := by
  have ea := tv.at
  have lb := lq_bd (T := T) (n := n) (p := p)
  have main : ∀ lo : Int32, (lo.toInt = 0 ↔ ¬ (97 ≤ gC T n p ∧ gC T n p ≤ 122)) → mT 2 sM_126 0 [(0, .ref 33)] [] v a (fun r3 v3 a3 => ((p1.toInt ≤ 0 → mT 3 sM_124 33 [(0, .ref 33), (1, .int p1), (2, .int lo), (3, .int r3)] [] v3 a3 K) ∧ (0 < p1.toInt → 0 ≤ p1.toInt ∧ p1.toInt < 8 ∧ 0 ≤ ((a3 3) p1.toNatClampNeg).toInt ∧ ((a3 3) p1.toNatClampNeg).toInt < 26000 ∧ 0 ≤ ((((a3 3) p1.toNatClampNeg) * 3) + ((a3 15) ((a3 3) p1.toNatClampNeg).toNatClampNeg)).toInt ∧ ((((a3 3) p1.toNatClampNeg) * 3) + ((a3 15) ((a3 3) p1.toNatClampNeg).toNatClampNeg)).toInt < 78000 ∧ 0 ≤ ((a3 3) p1.toNatClampNeg).toInt ∧ ((a3 3) p1.toNatClampNeg).toInt < 26000 ∧ 0 ≤ ((a3 3) p1.toNatClampNeg).toInt ∧ ((a3 3) p1.toNatClampNeg).toInt < 26000 ∧ mT 3 sM_124 33 [(0, .ref 33), (1, .int p1), (2, .int lo), (3, .int r3)] [] v3 (va_up (va_up a3 16 (upd (a3 16) ((((a3 3) p1.toNatClampNeg) * 3) + ((a3 15) ((a3 3) p1.toNatClampNeg).toNatClampNeg)).toNatClampNeg r3)) 15 (upd (a3 15) ((a3 3) p1.toNatClampNeg).toNatClampNeg (((a3 15) ((a3 3) p1.toNatClampNeg).toNatClampNeg) + 1))) K))) := by
    intro lo hlo
    refine c_leaf tv hk hg h37 hc hU (fun r v1 a1 c1 hl => ?_)
    obtain ⟨l1, l2, l3, l4, l5, l6, l7, l8, l9, l10⟩ := hl
    refine ⟨fun hz => ?_, fun hz => ?_⟩
    · have k0 : k = 0 := by omega
      subst k0
      refine hK r lo v1 a1 c1 hlo ⟨l1, l2, l3, l4, by omega, l6, l8, fun j _ h1 h2 h3 => l9 j h1 h2 h3, fun j _ => by rw [l9 3 (by decide) (by decide) (by decide)], fun t ht _ => (l7.1 t ht).2, fun f hf => absurd hf (by omega), fun e he _ => l7.mono he, fun z => ⟨(l10 z).2.1, by have := (l10 z).1; omega⟩⟩ (l9 3 (by decide) (by decide) (by decide)) l5 (fun z => ⟨(l10 z).1, (l10 z).2.2⟩)
    · obtain ⟨f, hf1, hf2, hf3⟩ := hop (by omega)
      have e3 : a1 3 = a 3 := l9 3 (by decide) (by decide) (by decide)
      have ef : (a1 15 f) = a 15 f := (l7.1 f hf2).2
      obtain ⟨g1, g2, -⟩ := hg.1 f hf2
      rw [i32_cl hp1, e3, i32_cl hf1, ef]
      have t3 : ((3 : Int32)).toInt = 3 := by decide
      have em : (a 3 k * 3 + a 15 f).toInt = ((f * 3 + (a 15 f).toInt.toNat : Nat) : Int) := i32_add (by rw [i32_mul (s := (f : Int) * 3) (by rw [hf1, t3]) (by omega) (by omega)]; omega) (by omega) (by omega)
      rw [i32_cl em]
      refine ⟨by omega, by omega, by omega, by omega, by omega, by omega, by omega, by omega, by omega, by omega, ?_⟩
      have eS : (a 15 f + 1).toInt = (a 15 f).toInt + 1 := i32_succ (by omega) (by omega)
      have hcU : ∀ e, e ≤ c → e ≤ f → cU a (va_up (va_up a1 16 (upd (a1 16) (f * 3 + (a 15 f).toInt.toNat) r)) 15 (upd (a1 15) f (a 15 f + 1))) e := by
        intro e he hef
        refine cU.trans (l7.mono he) ⟨fun t ht => ⟨rfl, ud_ne (by omega)⟩, fun i hi => ud_ne (by omega)⟩
      refine hK r lo v1 _ c1 hlo ⟨⟨l1.1, l1.2.1, l1.2.2.1, l1.2.2.2.1, l1.2.2.2.2⟩, ?_, l3, l4, by omega, l6, l8, fun j _ h1 h2 h3 => (va_ne h2).trans ((va_ne h3).trans (l9 j h1 h2 h3)), fun j _ => ?_, fun t ht htf => ?_, fun f' _ hf' => ?_, fun e he hef => hcU e he (by have := hef (by omega); omega), fun z => ⟨(l10 z).2.1, by have := (l10 z).1; omega⟩⟩ e3 l5 (fun z => ⟨(l10 z).1, ?_⟩)
      · refine g_hang (a := a1) (f := f) (r := r) l2 (by omega) (by rw [ef]; exact hf3) l6 (fun t ht => ud_ne ht) ?_ (fun i hi => ?_) ?_ rfl
        · show (upd (a1 15) f (a 15 f + 1) f).toInt = _
          rw [ud_eq, ef]
          exact eS
        · show upd (a1 16) _ r i = _
          rw [ef] at hi
          exact ud_ne hi
        · show upd (a1 16) _ r _ = _
          rw [ef]
          exact ud_eq
      · show a1 3 j = a 3 j
        rw [e3]
      · have : t ≠ f := fun z => htf (by omega) (by omega)
        show upd (a1 15) f _ t = _
        rw [ud_ne this]
        exact (l7.1 t ht).2
      · obtain rfl : f' = f := by omega
        show (upd (a1 15) f' (a 15 f' + 1) f').toInt = _
        rw [ud_eq]
        exact eS
      · show (upd (a1 15) f (a 15 f + 1) c).toInt = 0
        rw [ud_ne (by omega)]
        exact (l10 z).2.2
  refine r_124_2 ⟨tv.b0, tv.b6, fun h1 h2 => ?_, fun h => ?_⟩
  · rw [ea] at h1 h2
    exact main 1 ⟨fun z => absurd z (by decide), fun z => absurd ⟨h1, h2⟩ z⟩
  · rw [ea] at h
    exact main 0 ⟨fun _ z => by omega, fun _ => by decide⟩
end BD
