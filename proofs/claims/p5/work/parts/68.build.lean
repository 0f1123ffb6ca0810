/-! WHAT WAS READ, frozen (its cells lie in F): Terms with rank and weight, Items, lists of Items, Clauses; Use.build -/
def q_sm (ws : Nat → Nat) : Nat → Nat
  | 0 => 0
  | k + 1 => q_sm ws k + ws k
def q_Tm (F : Nat → Prop) (N : Nat) (G : Nat → sx_C) : Nat → Nat → Nat → Prop
  | 0, _, _ => False
  | r + 1, p, w => 5 ≤ p ∧ p + 1 < N ∧ F p ∧ F (p + 1) ∧ ∃ (k v s cp : Int32) (n m : Nat) (f : Nat → Option Nat) (ws : Nat → Nat), G p = oC 7 [.int k, .int v, .ref (p + 1), .int s, .int cp] ∧ G (p + 1) = aC 8 n f ∧ s.toInt = (m : Int) ∧ m ≤ n ∧ m ≤ 3 ∧ ((k.toInt = 0 → 0 ≤ v.toInt ∧ v.toInt < 26) ∧ (k.toInt ≠ 0 → k.toInt ≠ 1 → 0 ≤ v.toInt ∧ v.toInt ≤ 255)) ∧ (∀ i, i < m → ∃ q, f i = some q ∧ q_Tm F N G r q (ws i)) ∧ 1 + q_sm ws m ≤ w
def q_To (F : Nat → Prop) (N : Nat) (G : Nat → sx_C) (o : Option Nat) (w : Nat) : Prop := ∀ y, o = some y → q_Tm F N G 5 y w
def q_It (F : Nat → Prop) (N : Nat) (G : Nat → sx_C) (b : Bool) (p w : Nat) : Prop := 5 ≤ p ∧ p < N ∧ F p ∧ ∃ (sg lv : Int32) (t1 : Nat) (o2 o3 : Option Nat) (w1 w2 w3 : Nat), G p = oC 9 [.int sg, .int lv, .ref t1, va_rf o2, va_rf o3] ∧ q_Tm F N G 5 t1 w1 ∧ q_To F N G o2 w2 ∧ q_To F N G o3 w3 ∧ w1 + w2 + w3 ≤ w ∧ (b = false → o2 ≠ none) ∧ (b = true → sg.toInt ≠ 0 ∧ (lv.toInt = -1 ∨ (0 ≤ lv.toInt ∧ lv.toInt < 4)) ∧ (sg.toInt ≠ 99 → o2 ≠ none ∧ (sg.toInt ≠ 61 → o3 ≠ none)))
def q_Li (F : Nat → Prop) (N : Nat) (G : Nat → sx_C) (b : Bool) (p m w : Nat) : Prop := 5 ≤ p ∧ p < N ∧ F p ∧ ∃ (a n : Nat) (sz mc : Int32) (f : Nat → Option Nat) (ws : Nat → Nat), G p = oC 13 [.ref a, .int sz, .int mc] ∧ sz.toInt = (m : Int) ∧ a < N ∧ F a ∧ G a = aC 4 n f ∧ m ≤ n ∧ (∀ i, i < m → ∃ q, f i = some q ∧ q_It F N G b q (ws i)) ∧ q_sm ws m ≤ w
section QF
variable {N N1 p w r u c : Nat} {G G1 : Nat → sx_C} {F F1 : Nat → Prop} {b : Bool}
theorem q_sm_le {ws : Nat → Nat} {i m : Nat} (h : i ≤ m) : q_sm ws i ≤ q_sm ws m := by
  induction m with
  | zero =>
    have : i = 0 := by omega
    rw [this]
    exact Nat.le_refl _
  | succ m ih =>
    by_cases q : i = m + 1
    · rw [q]
      exact Nat.le_refl _
    · exact Nat.le_trans (ih (by omega)) (Nat.le_add_right _ _)
theorem q_Tm.rk : ∀ {r r' p w : Nat}, r ≤ r' → q_Tm F N G r p w → q_Tm F N G r' p w := by
  intro r
  induction r with
  | zero =>
    intro r' p w _ h
    exact h.elim
  | succ r ih =>
    intro r' p w hr h
    cases r' with
    | zero => omega
    | succ r' =>
      obtain ⟨h1, h2, h3, h4, k, v, s, cp, n, m, f, ws, e1, e2, e3, e4, e5, e6, e7, e8⟩ := h
      refine ⟨h1, h2, h3, h4, k, v, s, cp, n, m, f, ws, e1, e2, e3, e4, e5, e6, fun i hi => ?_, e8⟩
      obtain ⟨q, g1, g2⟩ := e7 i hi
      exact ⟨q, g1, ih (by omega) g2⟩
theorem q_Tm.fr (hN : N ≤ N1) (hF : ∀ q, F q → F1 q) (e : ∀ q, F q → G1 q = G q) : ∀ {r p w : Nat}, q_Tm F N G r p w → q_Tm F1 N1 G1 r p w := by
  intro r
  induction r with
  | zero =>
    intro p w h
    exact h
  | succ r ih =>
    intro p w h
    obtain ⟨h1, h2, h3, h4, k, v, s, cp, n, m, f, ws, e1, e2, e3, e4, e5, e6, e7, e8⟩ := h
    refine ⟨h1, by omega, hF _ h3, hF _ h4, k, v, s, cp, n, m, f, ws, (e p h3).trans e1, (e _ h4).trans e2, e3, e4, e5, e6, fun i hi => ?_, e8⟩
    obtain ⟨q, g1, g2⟩ := e7 i hi
    exact ⟨q, g1, ih g2⟩
theorem q_To.fr {o : Option Nat} (hN : N ≤ N1) (hF : ∀ q, F q → F1 q) (e : ∀ q, F q → G1 q = G q) (h : q_To F N G o w) : q_To F1 N1 G1 o w := fun y q => (h y q).fr hN hF e
theorem q_It.fr (hN : N ≤ N1) (hF : ∀ q, F q → F1 q) (e : ∀ q, F q → G1 q = G q) (h : q_It F N G b p w) : q_It F1 N1 G1 b p w := by
  obtain ⟨h1, h2, h3, sg, lv, t1, o2, o3, w1, w2, w3, e1, e2, e3, e4, e5, e6, e7⟩ := h
  exact ⟨h1, by omega, hF _ h3, sg, lv, t1, o2, o3, w1, w2, w3, (e p h3).trans e1, e2.fr hN hF e, e3.fr hN hF e, e4.fr hN hF e, e5, e6, e7⟩
theorem q_Li.fr {m : Nat} (hN : N ≤ N1) (hF : ∀ q, F q → F1 q) (e : ∀ q, F q → G1 q = G q) (h : q_Li F N G b p m w) : q_Li F1 N1 G1 b p m w := by
  obtain ⟨h1, h2, h3, a, n, sz, mc, f, ws, e1, e2, e3, e4, e5, e6, e7, e8⟩ := h
  refine ⟨h1, by omega, hF _ h3, a, n, sz, mc, f, ws, (e p h3).trans e1, e2, by omega, hF _ e4, (e a e4).trans e5, e6, fun i hi => ?_, e8⟩
  obtain ⟨q, g1, g2⟩ := e7 i hi
  exact ⟨q, g1, g2.fr hN hF e⟩
theorem q_UR.fz (hr : q_UR N G N1 G1) (hF : ∀ p, F p → p < N ∧ ¬ q_U G p) : (∀ p, F p → G1 p = G p) ∧ (∀ p, F p → p < N1 ∧ ¬ q_U G1 p) :=
  ⟨fun p q => hr.2.1 p (hF p q).1 (hF p q).2, fun p q => ⟨Nat.lt_of_lt_of_le (hF p q).1 hr.1.1, fun g => (hF p q).2 (hr.2.2 p (hF p q).1 g)⟩⟩
end QF
section QB
variable {F : Nat → Prop} {N u c : Nat} {G : Nat → sx_C} {K : Option Value ⊕ Nat → Nat → (Nat → sx_C) → Nat → Nat → Prop}
theorem cT.dep {h h' : Nat} {M : sx_M} {pc : Nat} {lv : List (Nat × Value)} {st : List Value} (hh : cT h M pc lv st N G K) (hle : h ≤ h') : cT h' M pc lv st N G K := by
  intro d dc ds P hP
  have := hh (d + (h' - h)) dc ds P hP
  rw [show d + (h' - h) + h = d + h' from by omega] at this
  exact this
theorem c_meet {v mt : Int32} {fd : Option Nat} {f : Nat → Option Nat} {x : Nat} (h : q_uI N G u c) (e10 : G 10 = oC 3 [.ref 11, .ref 13, .ref 16, .int mt, va_rf fd]) (e16 : G 16 = aC 6 26 f) (hx : q_ob N G x 10) (h0 : 0 ≤ v.toInt) (h1 : v.toInt < 26) : q_uI N (va_up (va_up G 16 (aC 6 26 (va_up f v.toNatClampNeg (some x)))) 10 (oC 3 [.ref 11, .ref 13, .ref 16, .int (mt ||| c_shl 1 v), va_rf fd])) u c ∧ q_UR N G N (va_up (va_up G 16 (aC 6 26 (va_up f v.toNatClampNeg (some x)))) 10 (oC 3 [.ref 11, .ref 13, .ref 16, .int (mt ||| c_shl 1 v), va_rf fd])) ∧ q_nn N (va_up (va_up G 16 (aC 6 26 (va_up f v.toNatClampNeg (some x)))) 10 (oC 3 [.ref 11, .ref 13, .ref 16, .int (mt ||| c_shl 1 v), va_rf fd])) 16 v.toNatClampNeg := by
  obtain ⟨mt', fd', e', g1, g2⟩ := h.2.2.2.1
  have ee := (oC_inj (e'.symm.trans e10)).2
  have em : mt' = mt := by
    injection ee with _ ee
    injection ee with _ ee
    injection ee with _ ee
    injection ee with ee _
    injection ee
  subst em
  have ef : va_rf fd' = va_rf fd := by
    injection ee with _ ee
    injection ee with _ ee
    injection ee with _ ee
    injection ee with _ ee
    injection ee with ee _
  have ef' : fd' = fd := by
    cases fd' <;> cases fd <;> first | rfl | (cases ef; done) | (cases ef; rfl)
  subst ef'
  obtain ⟨i1, r1, m1⟩ := h.ea (x := 16) (k := v.toNatClampNeg) (Or.inr (Or.inr rfl)) e16 hx
  have ev : v.toInt = ((v.toNatClampNeg : Nat) : Int) := by
    show v.toInt = ((v.toInt.toNat : Nat) : Int)
    omega
  obtain ⟨i2, r2⟩ := i1.e10 (mt := mt' ||| c_shl 1 v) (fd := fd') (fun w k hw hk hb => by
    by_cases q : k = v.toNatClampNeg
    · rw [q]
      exact m1
    · rw [q_bitU ev (by omega) hw hk q] at hb
      exact (g1 w k hw hk hb).sl r1.1) (g2.sl r1.1)
  exact ⟨i2, r1.trans r2, m1.sl r2.1⟩
theorem c_build33 {h p : Nat} {k v s cp : Int32} (hI : q_uI N G u c) (hp : 5 ≤ p) (hpN : p < N) (e : G p = oC 7 [.int k, .int v, .ref (p + 1), .int s, .int cp]) (h0 : 0 ≤ v.toInt) (h1 : v.toInt < 26) (hn : q_nn N G 16 v.toNatClampNeg) (hK : ∀ y, q_ob N G y 10 → K (.inl (some (.ref y))) N G 0 0) : cT (h + 10) sM_56 33 [(0, .ref 10), (1, .ref p)] [] N G K := by
  have h64 := hI.2.1.1
  obtain ⟨mt, fd, e10, -⟩ := hI.2.2.2.1
  obtain ⟨f, e16⟩ := hI.2.1.a 16 6 26 rfl
  obtain ⟨y, g1, g2⟩ := hI.1.el (by decide) e16 hn
  exact k_56_33 ⟨by omega, mt, fd, e10, hp, hpN, k, v, s, cp, e, by omega, f, e16, h0, h1, y, g1, hK y g2⟩
set_option maxHeartbeats 2000000 in
theorem j_build : ∀ (r p w N : Nat) (G : Nat → sx_C) (u c : Nat) (K : Option Value ⊕ Nat → Nat → (Nat → sx_C) → Nat → Nat → Prop), q_uI N G u c → (∀ q, F q → q < N ∧ ¬ q_U G q) → q_Tm F N G r p w → u + w ≤ 20000 → (∀ y N1 G1 kc ks u1 c1, q_uI N1 G1 u1 c1 → q_UR N G N1 G1 → q_ob N1 G1 y 10 → u ≤ u1 → u1 ≤ u + w → kc + c ≤ c1 → ks + 8 * c ≤ 8 * c1 → K (.inl (some (.ref y))) N1 G1 kc ks) → cT (10 * r) sM_56 0 [(0, .ref 10), (1, .ref p)] [] N G K := by
  intro r
  induction r with
  | zero =>
    intro p w N G u c K h hF hT
    exact hT.elim
  | succ r ih =>
    intro p w N G u c K h hF hT hw hK
    obtain ⟨h5, hpN, f1, f2, k, v, s, cp, n, m, f, ws, e1, e2, e3, e4, e5, e6, e7, e8⟩ := hT
    have h64 := h.2.1.1
    show cT (10 * r + 10) sM_56 0 _ _ _ _ _
    have loop : ∀ (j i : Nat) (p3 : Int32) (N1 : Nat) (G1 : Nat → sx_C) (u1 c1 y : Nat) (K' : Option Value ⊕ Nat → Nat → (Nat → sx_C) → Nat → Nat → Prop), i + j = m → p3.toInt = (i : Int) → N ≤ N1 → q_uI N1 G1 u1 c1 → (∀ q, F q → q < N1 ∧ ¬ q_U G1 q) → (∀ q, F q → G1 q = G q) → q_ob N1 G1 y 10 → u1 + q_sm ws m ≤ 20000 + q_sm ws i → (∀ N2 G2 kc ks u2 c2, q_uI N2 G2 u2 c2 → q_UR N1 G1 N2 G2 → q_ob N2 G2 y 10 → u1 ≤ u2 → u2 + q_sm ws i ≤ u1 + q_sm ws m → kc + c1 ≤ c2 → ks + 8 * c1 ≤ 8 * c2 → K' (.inl (some (.ref y))) N2 G2 kc ks) → cT (10 * r + 10) sM_56 61 [(0, .ref 10), (1, .ref p), (2, va_rf (some y)), (3, .int p3)] [] N1 G1 K' := by
      intro j
      induction j with
      | zero =>
        intro i p3 N1 G1 u1 c1 y K' hij hp3 hN1 hI hF1 hE hy hu hK'
        have hi : i = m := by omega
        subst hi
        exact k_56_61 ⟨h5, by omega, k, v, s, cp, (hE p f1).trans e1, fun _ => hK' N1 G1 0 0 u1 c1 hI q_UR.rfl' hy (by omega) (by omega) (by omega) (by omega), fun q => by omega⟩
      | succ j ihj =>
        intro i p3 N1 G1 u1 c1 y K' hij hp3 hN1 hI hF1 hE hy hu hK'
        have h641 := hI.2.1.1
        obtain ⟨q, g1, g2⟩ := e7 i (by omega)
        have ec : p3.toNatClampNeg = i := i32_cl hp3
        obtain ⟨mt, fd, e10, -⟩ := hI.2.2.2.1
        have hsm : q_sm ws (i + 1) = q_sm ws i + ws i := rfl
        have hsm2 : q_sm ws (i + 1) ≤ q_sm ws m := q_sm_le (by omega)
        refine k_56_61 ⟨h5, by omega, k, v, s, cp, (hE p f1).trans e1, fun z => by omega, fun _ => ⟨by omega, by omega, n, f, (hE _ f2).trans e2, by omega, by omega, q, by rw [ec]; exact g1, by omega, mt, fd, e10, ?_⟩⟩
        refine ih q (ws i) N1 G1 u1 c1 _ hI hF1 (g2.fr hN1 (fun _ z => z) hE) (by omega) (fun y' N2 G2 kc ks u2 c2 t1 t2 t3 t4 t5 t6 t7 => ⟨some y', rfl, fun z => (by cases z), fun x8 ex => ⟨fun z => (by cases z), fun x18 ex2 => ?_⟩⟩)
        cases ex
        cases ex2
        obtain ⟨hE2, hF2⟩ := t2.fz hF1
        have hE2' : ∀ q, F q → G2 q = G q := fun q z => (hE2 q z).trans (hE q z)
        have hy2 := hy.sl t2.1
        obtain ⟨a1, a2, a3, a4, fp, b1, b2, b3, b4, b5, b6, b7, b8, b9⟩ := t1.1.nd hy2
        have h642 := t1.2.1.1
        have hN2 := t2.1.1
        have ei1 : (p3 + 1).toInt = ((i + 1 : Nat) : Int) := by
          rw [i32_succ (by omega) (by omega), hp3]
          omega
        refine ⟨hy2.1, hy2.2.1, a1, a2, a3, a4, b1, fun h3 => ?_, fun h3 => ⟨by have := hy2.1; omega, b2, fp, b3, b4, by omega, t3.1, t3.2.1, ?_⟩⟩
        · refine ihj (i + 1) (p3 + 1) N2 G2 u2 c2 y _ (by omega) ei1 (by omega) t1 hF2 hE2' hy2 (by omega) (fun N3 G3 kc3 ks3 u3 c3 s1 s2 s3 s4 s5 s6 s7 => ?_)
          exact hK' N3 G3 (kc + kc3) (ks + ks3) u3 c3 s1 (t2.trans s2) s3 (by omega) (by omega) (by omega) (by omega)
        · obtain ⟨z1, z2, z3, z4, -, z5, -⟩ := t1.1.nd t3
          obtain ⟨i3, r3, m3⟩ := t1.ep (n := 3) (k := a3.toNatClampNeg) hy2 b3 t3
          have ea3 : (a3 + 1).toInt = a3.toInt + 1 := i32_succ b4 (by omega)
          have ecl : a3.toNatClampNeg = a3.toInt.toNat := rfl
          obtain ⟨i4, r4⟩ := i3.en (k := a1) (v := a2) (s := a3 + 1) (o := a4) (hy2.sl r3.1) (by omega) (by omega) (fun ii hii => by
            by_cases qq : (ii : Int) < a3.toInt
            · exact (b9 ii qq).sl r3.1
            · have : ii = a3.toNatClampNeg := by
                rw [ecl]
                omega
              rw [this]
              exact m3) (b7.sl r3.1) (t1.1.kv hy2 b1)
          have r34 := r3.trans r4
          obtain ⟨hE4, hF4⟩ := r34.fz hF2
          refine ⟨z1, z2, z3, z4, z5, ?_⟩
          refine ihj (i + 1) (p3 + 1) N2 _ u2 c2 y _ (by omega) ei1 (by omega) i4 hF4 (fun q z => (hE4 q z).trans (hE2' q z)) (hy2.sl r34.1) (by omega) (fun N3 G3 kc3 ks3 u3 c3 s1 s2 s3 s4 s5 s6 s7 => ?_)
          exact hK' N3 G3 (kc + kc3) (ks + ks3) u3 c3 s1 ((t2.trans r34).trans s2) s3 (by omega) (by omega) (by omega) (by omega)
    obtain ⟨mt, fd, e10, hm, hfd⟩ := h.2.2.2.1
    obtain ⟨us, vr, sz, mc, al, nl, sl, fl, l1, -⟩ := h.2.2.2.2
    refine k_56_0 ⟨h5, by omega, k, v, s, cp, e1, fun hk => ⟨by omega, mt, fd, e10, by omega, us, vr, l1, ?_⟩, fun hk => ⟨by omega, mt, fd, e10, fun hb => ⟨by omega, us, vr, l1, ?_⟩, fun hb => ?_⟩⟩
    · refine c_make h (by omega) e6.2 (fun y N1 G1 kc ks c1 t1 t2 t3 t4 t5 => ⟨some y, rfl, ?_⟩)
      obtain ⟨hE1, hF1⟩ := t2.fz hF
      refine loop m 0 0 N1 G1 (u + 1) c1 y _ (by omega) rfl t2.1.1 t1 hF1 hE1 t3 (by show _ + _ ≤ 20000 + 0; omega) (fun N2 G2 kc2 ks2 u2 c2 s1 s2 s3 s4 s5 s6 s7 => ?_)
      have s5' : u2 + 0 ≤ u + 1 + q_sm ws m := s5
      exact hK y N2 G2 (kc + kc2) (ks + ks2) u2 c2 s1 (t2.trans s2) s3 (by omega) (by omega) (by omega) (by omega)
    · obtain ⟨v0, v26⟩ := e6.1 hk
      refine c_makeV h (by omega) (fun y N1 G1 kc ks c1 t1 t2 t3 t4 t5 => ⟨some y, rfl, fun z => (by cases z), fun x7 ex => ?_⟩)
      cases ex
      have h641 := t1.2.1.1
      obtain ⟨mt1, fd1, e101, -⟩ := t1.2.2.2.1
      obtain ⟨f16, e16⟩ := t1.2.1.a 16 6 26 rfl
      obtain ⟨z1, z2, z3, z4, -, z5, -⟩ := t1.1.nd t3
      obtain ⟨i2, r2, m2⟩ := c_meet t1 e101 e16 t3 v0 v26
      have r12 := t2.trans r2
      refine ⟨by omega, mt1, fd1, e101, by omega, f16, e16, v0, v26, t3.1, t3.2.1, z1, z2, z3, z4, z5, ?_⟩
      have hN := t2.1.1
      refine c_build33 i2 h5 (by omega) ((r12.fz hF).1 p f1 |>.trans e1) v0 v26 m2 (fun y2 hy2 => ?_)
      exact hK y2 N1 _ (kc + 0) (ks + 0) (u + 1) c1 i2 r12 hy2 (by omega) (by omega) (by omega) (by omega)
    · obtain ⟨v0, v26⟩ := e6.1 hk
      have ev : v.toInt = ((v.toNatClampNeg : Nat) : Int) := by
        show v.toInt = ((v.toInt.toNat : Nat) : Int)
        omega
      refine c_build33 h h5 (by omega) e1 v0 v26 (hm v v.toNatClampNeg ev (by omega) hb) (fun y2 hy2 => ?_)
      exact hK y2 N G 0 0 u c h q_UR.rfl' hy2 (by omega) (by omega) (by omega) (by omega)
end QB
