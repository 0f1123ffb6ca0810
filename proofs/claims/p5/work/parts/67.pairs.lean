/-! Node.atLast; PAIRS: pushParts, next; Use: compare, below -/
def q_W (N : Nat) (G : Nat → sx_C) : Prop := ∃ (op lk : Int32) (l r : Nat), G 13 = oC 5 [.ref 14, .ref 15, .int op, .int lk, .ref l, .ref r] ∧ q_ob N G l 10 ∧ q_ob N G r 10
def q_Fd (N : Nat) (G : Nat → sx_C) : Prop := ∃ (mt : Int32) (y : Nat), G 10 = oC 3 [.ref 11, .ref 13, .ref 16, .int mt, .ref y] ∧ q_ob N G y 10
section QP
variable {N u c x : Nat} {G : Nat → sx_C} {K : Option Value ⊕ Nat → Nat → (Nat → sx_C) → Nat → Nat → Prop}
theorem c_at4 {x0 : Nat} (hT : q_TH N G) (hK : ∀ y, q_ob N G y 10 → K (.inl (some (.ref y))) N G 0 0) : ∀ (k : Nat) (p2 : Int32) (y1 : Nat), q_ob N G y1 10 → 0 ≤ p2.toInt → p2.toInt + (k : Int) = 1000000 → cT 1 sM_74 4 [(0, .ref x0), (1, .ref y1), (2, .int p2)] [] N G K := by
  intro k
  induction k with
  | zero =>
    intro p2 y1 hy h0 hk
    exact k_74_4 ⟨fun _ => hK y1 hy, fun q => by omega⟩
  | succ k ih =>
    intro p2 y1 hy h0 hk
    obtain ⟨a, b, s, o, f, e, -, -, -, -, -, ho, -⟩ := hT.nd hy
    refine k_74_4 ⟨fun q => by omega, fun _ => ⟨hy.1, hy.2.1, a, b, s, o, e, fun _ => hK y1 hy, fun z ez => ?_⟩⟩
    exact ih (p2 + 1) z (ho z ez) (by rw [i32_succ h0 (by omega)]; omega) (by rw [i32_succ h0 (by omega)]; omega)
theorem c_at (hT : q_TH N G) (hx : q_ob N G x 10) (hK : ∀ y, q_ob N G y 10 → K (.inl (some (.ref y))) N G 0 0) : cT 1 sM_74 0 [(0, .ref x)] [] N G K :=
  k_74_0 (c_at4 hT hK 1000000 0 x hx (Int.le_refl 0) rfl)
theorem i32_mm {x : Int32} (h0 : -1000000 ≤ x.toInt) (h1 : x.toInt ≤ 1000000) : ∃ y : Int32, x + (-1) = y ∧ y.toInt = x.toInt - 1 := ⟨_, rfl, i32_pred h0 h1⟩
theorem i32_m1 {x : Int32} (h0 : -1000000 ≤ x.toInt) (h1 : x.toInt ≤ 1000000) : ∃ y : Int32, x - 1 = y ∧ y.toInt = x.toInt - 1 := ⟨_, rfl, i32_sub (by rfl) (by omega) (by omega)⟩
set_option maxHeartbeats 1000000 in
theorem c_push {lk : Int32} {l r : Nat} : ∀ (k : Nat) (p1 op : Int32) (G : Nat → sx_C), q_uI N G u c → G 13 = oC 5 [.ref 14, .ref 15, .int op, .int lk, .ref l, .ref r] → q_ob N G l 10 → q_ob N G r 10 → (∀ i : Nat, (i : Int) ≤ p1.toInt → q_nn N G (l + 1) i ∧ q_nn N G (r + 1) i) → p1.toInt + 1 = (k : Int) → p1.toInt ≤ 2 → (∀ G1 op1, q_uI N G1 u c → q_UR N G N G1 → G1 13 = oC 5 [.ref 14, .ref 15, .int op1, .int lk, .ref l, .ref r] → K (.inl none) N G1 0 0) → cT 1 sM_79 10 [(0, .ref 13), (1, .int p1)] [] N G K := by
  intro k
  induction k with
  | zero =>
    intro p1 op G h e hl hr hn hk h2 hK
    exact k_79_10 ⟨fun _ => hK G op h q_UR.rfl' e, fun q => by omega⟩
  | succ k ih =>
    intro p1 op G h e hl hr hn hk h2 hK
    have h64 := h.2.1.1
    obtain ⟨op', lk', l', r', e', g0, g1, g2, g3, g4, g5, g6⟩ := h.2.2.1
    have ee := (oC_inj (e'.symm.trans e)).2
    obtain ⟨f3, e14⟩ := h.2.1.a 14 6 121 rfl
    have eop : op' = op := by
      injection ee with _ ee
      injection ee with _ ee
      injection ee with ee _
      injection ee
    have elk : lk' = lk := by
      injection ee with _ ee
      injection ee with _ ee
      injection ee with _ ee
      injection ee with ee _
      injection ee
    subst eop
    subst elk
    refine k_79_10 ⟨fun q => by omega, fun _ => ⟨by omega, op', lk', some l, some r, e, by omega, f3, e14, fun _ => hK G op' h q_UR.rfl' e, fun hlt => ⟨fun q => (by cases q), fun x5 ex => ?_⟩⟩⟩
    cases ex
    obtain ⟨n1, n2⟩ := hn k (by omega)
    have ek : p1.toNatClampNeg = k := i32_cl (by omega)
    have eo : op'.toNatClampNeg = op'.toInt.toNat := rfl
    obtain ⟨a1, a2, a3, a4, f7, b1, b2, b3, -⟩ := h.1.nd hl
    obtain ⟨x9, b4, b5⟩ := h.1.el (by have := hl.1; omega) b3 n1
    obtain ⟨d1, d2, d3, d4, -, d5, -⟩ := h.1.nd b5
    obtain ⟨i1, r1, m1⟩ := h.ea (x := 14) (k := op'.toNatClampNeg) (Or.inl rfl) e14 b5
    obtain ⟨v1, v2, v3, v4, f19, w1, w2, w3, -⟩ := i1.1.nd (hr.sl r1.1)
    obtain ⟨x21, w4, w5⟩ := i1.1.el (by have := hr.1; omega) w3 (n2.sl r1.1)
    obtain ⟨z1, z2, z3, z4, -, z5, -⟩ := i1.1.nd w5
    obtain ⟨f22, e15⟩ := i1.2.1.a 15 6 121 rfl
    obtain ⟨i2, r2, m2⟩ := i1.ea (x := 15) (k := op'.toNatClampNeg) (Or.inr (Or.inl rfl)) e15 w5
    have r12 := r1.trans r2
    have eo1 : (op' + 1).toInt = op'.toInt + 1 := i32_succ g0 (by omega)
    obtain ⟨i3, r3⟩ := i2.e13 (op := op' + 1) (lk := lk') (l := some l) (r := some r) rfl (by omega) (by omega) g2 g3 (fun i hi => by
      by_cases q : (i : Int) < op'.toInt
      · exact ⟨(g4 i q).1.sl r12.1, (g4 i q).2.sl r12.1⟩
      · have qi : i = op'.toNatClampNeg := by
          rw [eo]
          omega
        rw [qi]
        exact ⟨m1.sl r2.1, m2⟩) (q_oo.some (hl.sl r12.1)) (q_oo.some (hr.sl r12.1))
    obtain ⟨p, ep, hp⟩ := i32_mm (x := p1) (by omega) (by omega)
    have l5 := hl.1
    have r5 := hr.1
    refine ⟨hl.1, hl.2.1, a1, a2, a3, a4, b1, by omega, b2, f7, b3, by omega, by omega, x9, by rw [ek]; exact b4, g0, by omega, b5.1, b5.2.1, d1, d2, d3, d4, d5, fun q => (by cases q), fun x17 ex => ?_⟩
    cases ex
    refine ⟨hr.1, hr.2.1, v1, v2, v3, v4, w1, by omega, w2, f19, w3, by omega, by omega, x21, by rw [ek]; exact w4, by omega, f22, e15, g0, by omega, w5.1, w5.2.1, z1, z2, z3, z4, z5, ?_⟩
    rw [ep]
    have r123 := r12.trans r3
    refine ih p (op' + 1) _ i3 up_eq (hl.sl r123.1) (hr.sl r123.1) (fun i hi => ⟨((hn i (by omega)).1).sl r123.1, ((hn i (by omega)).2).sl r123.1⟩) (by omega) (by omega) (fun G1 op1 j1 j2 j3 => hK G1 op1 j1 (r123.trans j2) j3)
theorem c_push0 {op lk : Int32} {l r : Nat} (h : q_uI N G u c) (e : G 13 = oC 5 [.ref 14, .ref 15, .int op, .int lk, .ref l, .ref r]) (hl : q_ob N G l 10) (hr : q_ob N G r 10) (hs : ∀ (a b s t : Int32) (o : Option Nat) (a' b' s' : Int32) (o' : Option Nat), G l = oC 10 [.ref (l + 1), .int a, .int b, .int s, va_rf o] → G r = oC 10 [.ref (r + 1), .int a', .int b', .int s', va_rf o'] → s.toInt = s'.toInt) (hK : ∀ G1 op1, q_uI N G1 u c → q_UR N G N G1 → G1 13 = oC 5 [.ref 14, .ref 15, .int op1, .int lk, .ref l, .ref r] → K (.inl none) N G1 0 0) : cT 1 sM_79 0 [(0, .ref 13)] [] N G K := by
  have h64 := h.2.1.1
  obtain ⟨a1, a2, a3, a4, f7, b1, b2, b3, b4, b5, b6, b7, b8, b9⟩ := h.1.nd hl
  obtain ⟨v1, v2, v3, v4, f8, w1, w2, w3, w4, w5, w6, w7, w8, w9⟩ := h.1.nd hr
  have es := hs a1 a2 a3 0 a4 v1 v2 v3 v4 b1 w1
  refine k_79_0 ⟨by omega, op, lk, some l, some r, e, fun q => (by cases q), fun x2 ex => ?_⟩
  cases ex
  refine ⟨hl.1, hl.2.1, a1, a2, a3, a4, b1, ?_⟩
  obtain ⟨p, ep, hp⟩ := i32_m1 (x := a3) (by omega) (by omega)
  rw [ep]
  exact c_push (a3.toInt.toNat) p op G h e hl hr (fun i hi => ⟨b9 i (by omega), w9 i (by omega)⟩) (by omega) (by omega) hK
set_option maxHeartbeats 2000000 in
theorem c_next : ∀ (k : Nat) (G : Nat → sx_C) (op lk : Int32) (l r : Option Nat), q_uI N G u c → G 13 = oC 5 [.ref 14, .ref 15, .int op, .int lk, va_rf l, va_rf r] → lk.toInt + (k : Int) = 60 → (∀ (v : Int32) G1, q_uI N G1 u c → q_UR N G N G1 → (v.toInt = 2 → q_W N G1) → K (.inl (some (.int v))) N G1 0 0) → cT 2 sM_77 0 [(0, .ref 13)] [] N G K := by
  intro k
  induction k with
  | zero =>
    intro G op lk l r h e hk hK
    have h64 := h.2.1.1
    exact k_77_0 ⟨by omega, op, lk, l, r, e, fun h0 => ⟨fun _ => hK 0 G h q_UR.rfl' (fun q => by cases q), fun q => by omega⟩, fun h0 => ⟨fun _ => ⟨fun q => by omega, fun _ => hK 3 G h q_UR.rfl' (fun q => by cases q)⟩, fun q => by omega⟩⟩
  | succ k ih =>
    intro G op lk l r h e hk hK
    have h64 := h.2.1.1
    obtain ⟨op', lk', l', r', e', g0, g1, g2, g3, g4, g5, g6⟩ := h.2.2.1
    have ee := (oC_inj (e'.symm.trans e)).2
    have eop : op' = op := by
      injection ee with _ ee
      injection ee with _ ee
      injection ee with ee _
      injection ee
    subst eop
    have elk : lk' = lk := by
      injection ee with _ ee
      injection ee with _ ee
      injection ee with _ ee
      injection ee with ee _
      injection ee
    subst elk
    have evl : ∀ {a b : Option Nat}, va_rf a = va_rf b → a = b := by
      intro a b q
      cases a <;> cases b <;> first | rfl | (cases q; done) | (cases q; rfl)
    have el : l' = l := by
      injection ee with _ ee
      injection ee with _ ee
      injection ee with _ ee
      injection ee with _ ee
      injection ee with ee _
      exact evl ee
    subst el
    have er : r' = r := by
      injection ee with _ ee
      injection ee with _ ee
      injection ee with _ ee
      injection ee with _ ee
      injection ee with _ ee
      injection ee with ee _
      exact evl ee
    subst er
    refine k_77_0 ⟨by omega, op', lk', l', r', e, fun h0 => ⟨fun _ => hK 0 G h q_UR.rfl' (fun q => by cases q), fun q => by omega⟩, fun h0 => ⟨fun _ => ⟨fun q => by omega, fun _ => hK 3 G h q_UR.rfl' (fun q => by cases q)⟩, fun hlt => ?_⟩⟩
    obtain ⟨o1, eo1, ho1⟩ := i32_m1 (x := op') (by omega) (by omega)
    have ek1 : (lk' + 1).toInt = lk'.toInt + 1 := i32_succ g2 (by omega)
    rw [eo1]
    have ec : o1.toNatClampNeg = o1.toInt.toNat := rfl
    have hn : ∀ i : Nat, (i : Int) < o1.toInt → q_nn N G 14 i ∧ q_nn N G 15 i := fun i hi => g4 i (by omega)
    obtain ⟨n1, n2⟩ := g4 o1.toInt.toNat (by omega)
    obtain ⟨i1, r1⟩ := h.e13 (op := o1) (lk := lk' + 1) (l := l') (r := r') rfl (by omega) (by omega) (by omega) (by omega) hn g5 g6
    obtain ⟨f8, e8⟩ := i1.2.1.a 14 6 121 rfl
    obtain ⟨x, y1, y2⟩ := i1.1.el (by decide) e8 (n1.sl r1.1)
    obtain ⟨a1, a2, a3, a4, -, b1, -⟩ := i1.1.nd y2
    refine ⟨by omega, f8, e8, by omega, by omega, x, by rw [ec]; exact y1, y2.1, y2.2.1, a1, a2, a3, a4, b1, c_at i1.1 y2 (fun z hz => ⟨rfl, rfl, rfl, rfl, some z, rfl, ?_⟩)⟩
    have hz0 : q_ob N G z 10 := by
      obtain ⟨q1, q2, fs, q3⟩ := hz
      by_cases q : z = 13
      · rw [q, up_eq] at q3
        exact absurd (oC_inj q3).1 (by decide)
      · exact ⟨q1, q2, fs, (va_ne q).symm.trans q3⟩
    obtain ⟨i2, r2⟩ := h.e13 (op := o1) (lk := lk' + 1) (l := some z) (r := r') rfl (by omega) (by omega) (by omega) (by omega) hn (q_oo.some hz0) g6
    obtain ⟨f16, e16⟩ := i2.2.1.a 15 6 121 rfl
    obtain ⟨x', y1', y2'⟩ := i2.1.el (by decide) e16 (n2.sl r2.1)
    obtain ⟨a1', a2', a3', a4', -, b1', -⟩ := i2.1.nd y2'
    refine ⟨by omega, f16, e16, by omega, by omega, x', by rw [ec]; exact y1', y2'.1, y2'.2.1, a1', a2', a3', a4', b1', c_at i2.1 y2' (fun w hw => ⟨rfl, rfl, rfl, rfl, some w, rfl, ?_⟩)⟩
    have hw0 : q_ob N G w 10 := by
      obtain ⟨q1, q2, fs, q3⟩ := hw
      by_cases q : w = 13
      · rw [q, up_eq] at q3
        exact absurd (oC_inj q3).1 (by decide)
      · exact ⟨q1, q2, fs, (va_ne q).symm.trans q3⟩
    obtain ⟨i3, r3⟩ := h.e13 (op := o1) (lk := lk' + 1) (l := some z) (r := some w) rfl (by omega) (by omega) (by omega) (by omega) hn (q_oo.some hz0) (q_oo.some hw0)
    have e13 : (va_up G 13 (oC 5 [.ref 14, .ref 15, .int o1, .int (lk' + 1), va_rf (some z), va_rf (some w)])) 13 = oC 5 [.ref 14, .ref 15, .int o1, .int (lk' + 1), .ref z, .ref w] := up_eq
    have hz3 := hz0.sl r3.1
    have hw3 := hw0.sl r3.1
    generalize (va_up G 13 (oC 5 [.ref 14, .ref 15, .int o1, .int (lk' + 1), va_rf (some z), va_rf (some w)])) = G3 at i3 r3 e13 hz3 hw3 ⊢
    have hret : ∀ v : Int32, K (.inl (some (.int v))) N G3 0 0 := fun v => hK v G3 i3 r3 (fun _ => ⟨o1, lk' + 1, z, w, e13, hz3, hw3⟩)
    have hagain : cT 2 sM_77 0 [(0, .ref 13)] [] N G3 K := ih G3 o1 (lk' + 1) (some z) (some w) i3 e13 (by omega) (fun v G1 j1 j2 j3 => hK v G1 j1 (r3.trans j2) j3)
    obtain ⟨k1, v1, s1, t1, -, m1, -⟩ := i3.1.nd hz3
    obtain ⟨k2, v2, s2, t2, -, m2, -⟩ := i3.1.nd hw3
    have z5 := hz3.1
    have w5 := hw3.1
    refine k_77_68 ⟨by omega, o1, lk' + 1, some z, some w, e13, fun q => (by cases q), fun x2 ex => ?_⟩
    cases ex
    refine ⟨hz3.1, hz3.2.1, k1, v1, s1, t1, m1, fun hk0 => ⟨fun q => (by cases q), fun x5 ex => ?_⟩, fun hk0 => ⟨fun q => (by cases q), fun x10 ex => ?_⟩⟩
    · cases ex
      exact ⟨by omega, by omega, fun _ => hagain, fun _ => hret 2⟩
    · cases ex
      refine ⟨hw3.1, hw3.2.1, k2, v2, s2, t2, m2, fun _ => ⟨fun _ => hret 1, fun _ => ⟨fun _ => hret 1, fun _ => ⟨fun _ => hret 1, fun es => ?_⟩⟩⟩, fun _ => ⟨by omega, by omega, fun _ => hagain, fun _ => hret 2⟩⟩
      refine c_push0 i3 e13 hz3 hw3 (fun a b s t o a' b' s' o' q1 q2 => ?_) (fun G1 op1 j1 j2 j3 => ⟨rfl, ?_⟩)
      · have := (oC_inj (m1.symm.trans q1)).2
        have h2 := (oC_inj (m2.symm.trans q2)).2
        injection this with _ this
        injection this with _ this
        injection this with _ this
        injection this with this _
        injection this with this
        injection h2 with _ h2
        injection h2 with _ h2
        injection h2 with _ h2
        injection h2 with h2 _
        injection h2 with h2
        rw [← this, ← h2]
        exact es
      · exact (ih G1 op1 (lk' + 1) (some z) (some w) j1 j3 (by omega) (fun v G2 t1 t2 t3 => hK v G2 t1 ((r3.trans j2).trans t2) t3)).mono (fun r N1 G1 kc ks q => by
          rw [Nat.zero_add, Nat.zero_add]
          exact q)
/-- Pairs.begin, then next (it stands in compare and in makeSame) -/
theorem c_beg {y1 y2 : Nat} {i2 i3 : Int32} (h : q_uI N G u c) (h1 : q_ob N G y1 10) (h2 : q_ob N G y2 10) {f7 f14 : Nat → Option Nat} (e : ∃ o4 o5 : Option Nat, G 13 = oC 5 [.ref 14, .ref 15, .int i2, .int i3, va_rf o4, va_rf o5]) (e7 : G 14 = aC 6 121 f7) (e14 : G 15 = aC 6 121 f14) : ∃ G1, G1 = va_up (va_up (va_up (va_up G 13 (oC 5 [.ref 14, .ref 15, .int i2, .int i3, .ref y1, .ref y2])) 14 (aC 6 121 (va_up f7 0 (some y1)))) 15 (aC 6 121 (va_up f14 0 (some y2)))) 13 (oC 5 [.ref 14, .ref 15, .int 1, .int 0, .ref y1, .ref y2]) ∧ q_uI N G1 u c ∧ q_UR N G N G1 ∧ G1 13 = oC 5 [.ref 14, .ref 15, .int 1, .int 0, .ref y1, .ref y2] := by
  refine ⟨_, rfl, ?_⟩
  obtain ⟨op', lk', l', r', e', g0, g1, g2, g3, g4, g5, g6⟩ := h.2.2.1
  obtain ⟨o4, o5, e⟩ := e
  have ee := (oC_inj (e'.symm.trans e)).2
  have eop : op' = i2 := by
    injection ee with _ ee
    injection ee with _ ee
    injection ee with ee _
    injection ee
  subst eop
  have elk : lk' = i3 := by
    injection ee with _ ee
    injection ee with _ ee
    injection ee with _ ee
    injection ee with ee _
    injection ee
  subst elk
  obtain ⟨j1, r1⟩ := h.e13 (op := op') (lk := lk') (l := some y1) (r := some y2) rfl g0 g1 g2 g3 g4 (q_oo.some h1) (q_oo.some h2)
  obtain ⟨j2, r2, m2⟩ := j1.ea (x := 14) (k := 0) (Or.inl rfl) ((va_ne (by decide)).trans e7) (h1.sl r1.1)
  have r12 := r1.trans r2
  obtain ⟨j3, r3, m3⟩ := j2.ea (x := 15) (k := 0) (Or.inr (Or.inl rfl)) ((va_ne (by decide)).trans ((va_ne (by decide)).trans e14)) (h2.sl r12.1)
  have r13 := r12.trans r3
  obtain ⟨j4, r4⟩ := j3.e13 (op := 1) (lk := 0) (l := some y1) (r := some y2) rfl (by decide) (by decide) (by decide) (by decide) (fun i hi => by
    have hi' : (i : Int) < 1 := hi
    have : i = 0 := by omega
    rw [this]
    exact ⟨m2.sl r3.1, m3⟩) (q_oo.some (h1.sl r13.1)) (q_oo.some (h2.sl r13.1))
  exact ⟨j4, r13.trans r4, up_eq⟩
theorem c_wait {o : Option Nat} {mt : Int32} {fd : Option Nat} (h : q_uI N G u c) (e : G 10 = oC 3 [.ref 11, .ref 13, .ref 16, .int mt, va_rf fd]) (ho : q_oo N G 10 o) : q_uI N (va_up G 10 (oC 3 [.ref 11, .ref 13, .ref 16, .int mt, va_rf o])) u c ∧ q_UR N G N (va_up G 10 (oC 3 [.ref 11, .ref 13, .ref 16, .int mt, va_rf o])) := by
  obtain ⟨mt', fd', e', g1, g2⟩ := h.2.2.2.1
  have ee := (oC_inj (e'.symm.trans e)).2
  have em : mt' = mt := by
    injection ee with _ ee
    injection ee with _ ee
    injection ee with _ ee
    injection ee with ee _
    injection ee
  subst em
  exact h.e10 g1 ho
set_option maxHeartbeats 1000000 in
theorem c_compare {y1 y2 : Nat} (h : q_uI N G u c) (h1 : q_ob N G y1 10) (h2 : q_ob N G y2 10) (hK : ∀ (v : Int32) G1, q_uI N G1 u c → q_UR N G N G1 → (v.toInt = 2 → q_Fd N G1) → K (.inl (some (.int v))) N G1 0 0) : cT 3 sM_75 0 [(0, .ref 10), (1, .ref y1), (2, .ref y2)] [] N G K := by
  have h64 := h.2.1.1
  obtain ⟨mt, fd, e10, -⟩ := h.2.2.2.1
  obtain ⟨op', lk', l', r', e', -⟩ := h.2.2.1
  obtain ⟨f7, e7⟩ := h.2.1.a 14 6 121 rfl
  obtain ⟨f14, e14⟩ := h.2.1.a 15 6 121 rfl
  obtain ⟨a1, a2, a3, a4, -, b1, -⟩ := h.1.nd h1
  obtain ⟨v1, v2, v3, v4, -, w1, -⟩ := h.1.nd h2
  have n1 := h.2.1.ne h1 13 5 rfl (by decide)
  have n2 := h.2.1.ne h2 13 5 rfl (by decide)
  have n4 : y2 ≠ 14 := fun q => by
    rw [q, e7] at w1
    exact oa_ne w1.symm
  obtain ⟨G1, eG, j1, j2, j3⟩ := c_beg h h1 h2 ⟨l', r', e'⟩ e7 e14
  refine k_75_0 ⟨by omega, mt, fd, e10, by omega, op', lk', l', r', e', by omega, f7, (va_ne (by decide)).trans e7, Int.le_refl 0, (by decide), h1.1, h1.2.1, a1, a2, a3, a4, (va_ne n1).trans b1, by omega, f14, (va_ne (by decide)).trans ((va_ne (by decide)).trans e14), Int.le_refl 0, (by decide), h2.1, h2.2.1, v1, v2, v3, v4, (va_ne n4).trans ((va_ne n2).trans w1), ?_⟩
  have eG' := eG
  show cT 2 sM_77 0 [(0, .ref 13)] [] N (va_up (va_up (va_up (va_up G 13 (oC 5 [.ref 14, .ref 15, .int op', .int lk', .ref y1, .ref y2])) 14 (aC 6 121 (va_up f7 0 (some y1)))) 15 (aC 6 121 (va_up f14 0 (some y2)))) 13 (oC 5 [.ref 14, .ref 15, .int 1, .int 0, .ref y1, .ref y2])) _
  rw [← eG]
  refine c_next 60 G1 1 0 (some y1) (some y2) j1 j3 rfl (fun v G2 t1 t2 t3 => ⟨v, rfl, fun hv => hK v G2 t1 (j2.trans t2) (fun q => absurd q hv), fun hv => ?_⟩)
  have h642 := t1.2.1.1
  obtain ⟨op2, lk2, l, r, e2, ol, or⟩ := t3 hv
  obtain ⟨mt2, fd2, e102, -⟩ := t1.2.2.2.1
  obtain ⟨k1, k2, k3, k4, -, m1, -⟩ := t1.1.nd ol
  refine ⟨by omega, mt2, fd2, e102, by omega, op2, lk2, some l, some r, e2, fun q => (by cases q), fun x39 ex => ?_⟩
  cases ex
  refine ⟨ol.1, ol.2.1, k1, k2, k3, k4, m1, fun _ => ⟨fun q => (by cases q), fun x45 ex => ?_⟩, fun _ => ?_⟩
  · cases ex
    obtain ⟨s1, s2⟩ := c_wait (o := some r) t1 e102 (q_oo.some or)
    exact hK 2 _ s1 ((j2.trans t2).trans s2) (fun _ => ⟨mt2, r, up_eq, or.sl s2.1⟩)
  · obtain ⟨s1, s2⟩ := c_wait (o := some l) t1 e102 (q_oo.some ol)
    exact hK 2 _ s1 ((j2.trans t2).trans s2) (fun _ => ⟨mt2, l, up_eq, ol.sl s2.1⟩)
set_option maxHeartbeats 1000000 in
theorem c_below {y1 y2 : Nat} (h : q_uI N G u c) (h1 : q_ob N G y1 10) (h2 : q_ob N G y2 10) (hK : ∀ (v : Int32) G1, q_uI N G1 u c → q_UR N G N G1 → (v.toInt = 2 → q_Fd N G1) → K (.inl (some (.int v))) N G1 0 0) : cT 2 sM_84 0 [(0, .ref 10), (1, .ref y1), (2, .ref y2)] [] N G K := by
  have h64 := h.2.1.1
  obtain ⟨mt, fd, e10, -⟩ := h.2.2.2.1
  obtain ⟨a1, a2, a3, a4, -, b1, -⟩ := h.1.nd h1
  obtain ⟨v1, v2, v3, v4, -, w1, -⟩ := h.1.nd h2
  have hw : ∀ z, q_ob N G z 10 → K (.inl (some (.int 2))) N (va_up G 10 (oC 3 [.ref 11, .ref 13, .ref 16, .int mt, .ref z])) 0 0 := fun z hz => by
    obtain ⟨s1, s2⟩ := c_wait (o := some z) h e10 (q_oo.some hz)
    exact hK 2 _ s1 s2 (fun _ => ⟨mt, z, up_eq, hz.sl s2.1⟩)
  refine k_84_0 ⟨h1.1, h1.2.1, a1, a2, a3, a4, b1, c_at h.1 h1 (fun z hz => ⟨rfl, rfl, rfl, rfl, some z, rfl, h2.1, h2.2.1, v1, v2, v3, v4, w1, c_at h.1 h2 (fun w hw' => ⟨rfl, rfl, rfl, rfl, some w, rfl, fun q => (by cases q), fun x5 ex => ?_⟩)⟩)⟩
  cases ex
  obtain ⟨k1, k2, k3, k4, -, m1, -⟩ := h.1.nd hz
  obtain ⟨p1, p2, p3, p4, -, q1, -⟩ := h.1.nd hw'
  refine ⟨hz.1, hz.2.1, k1, k2, k3, k4, m1, fun h0 => ⟨fun q => absurd h0 q, fun _ => ⟨by omega, mt, fd, e10, hw z hz⟩⟩, fun h0 => ⟨fun q => (by cases q), fun x25 ex => ?_⟩⟩
  cases ex
  refine ⟨hw'.1, hw'.2.1, p1, p2, p3, p4, q1, fun _ => ⟨fun _ => hK 1 G h q_UR.rfl' (fun q => (by cases q)), fun _ => ⟨fun _ => hK 1 G h q_UR.rfl' (fun q => (by cases q)), fun _ => ⟨fun _ => hK 1 G h q_UR.rfl' (fun q => (by cases q)), fun _ => hK 0 G h q_UR.rfl' (fun q => (by cases q))⟩⟩⟩, fun _ => ⟨fun _ => ⟨by omega, mt, fd, e10, hw w hw'⟩, fun q => absurd q h0⟩⟩
end QP
