/-! Network.reduce, step; GuardNet.run; Network.dismiss, begin -/
def q_L8 (F : Nat → Prop) (N : Nat) (G : Nat → sx_C) (s : Nat) : Prop := ∃ (a n : Nat) (sz m : Int32) (f : Nat → Option Nat), F 8 ∧ F a ∧ G 8 = oC 13 [.ref a, .int sz, .int m] ∧ sz.toInt = (s : Int) ∧ s ≤ 12 ∧ G a = aC 4 n f ∧ s ≤ n ∧ (∀ i, i < s → ∃ q, f i = some q ∧ q_Cl F N G q)
theorem q_L8.fr {F : Nat → Prop} {N N1 s : Nat} {G G1 : Nat → sx_C} (hN : N ≤ N1) (e : ∀ q, F q → G1 q = G q) (h : q_L8 F N G s) : q_L8 F N1 G1 s := by
  obtain ⟨a, n, sz, m, f, h1, h2, h3, h4, h5, h6, h7, h8⟩ := h
  refine ⟨a, n, sz, m, f, h1, h2, (e 8 h1).trans h3, h4, h5, (e a h2).trans h6, h7, fun i hi => ?_⟩
  obtain ⟨q, g1, g2⟩ := h8 i hi
  exact ⟨q, g1, g2.fr hN (fun _ z => z) e⟩
section QS
variable {F : Nat → Prop} {N N1 x y u c mk hd s : Nat} {G G1 : Nat → sx_C} {sp : Int32} {K : Option Value ⊕ Nat → Nat → (Nat → sx_C) → Nat → Nat → Prop}
set_option maxHeartbeats 2000000 in
theorem j_reduce2 (hd1 : hd ≤ 1) : ∀ (j i : Nat) (p3 : Int32) (N : Nat) (G : Nat → sx_C) (c : Nat) (K : Option Value ⊕ Nat → Nat → (Nat → sx_C) → Nat → Nat → Prop), i + j = s → p3.toInt = (i : Int) → q_nI N G u c mk hd sp → (∀ q, F q → q < N ∧ ¬ q_V G q) → q_L8 F N G s → q_og N G (some x) → u + 48 ≤ 20000 → (∀ (v : Int32) N1 G1 kc ks u1 c1 mk1, q_nI N1 G1 u1 c1 mk1 hd sp → q_NR N G N1 G1 → u ≤ u1 → u1 ≤ u + 48 → kc + c + 3 * mk ≤ c1 + 3 * mk1 → ks + 8 * c + 24 * mk ≤ 8 * c1 + 24 * mk1 → K (.inl (some (.int v))) N1 G1 kc ks) → cT 82 sM_71 2 [(0, .ref 9), (1, .ref x), (2, .ref 8), (3, .int p3)] [] N G K := by
  intro j
  induction j with
  | zero =>
    intro i p3 N G c K hij hp3 h hF hL hx hu hK
    have h64 := h.1.2.1.1
    obtain ⟨a, n, sz, m, f, h1, h2, h3, h4, h5, h6, h7, h8⟩ := hL
    have ox := hx.ob
    obtain ⟨sg, l, o1, o2, o3, w, fw, e, -⟩ := h.1.1.go ox
    exact k_71_2 ⟨by omega, a, sz, m, h3, fun _ => ⟨ox.1, ox.2.1, sg, l, o1, o2, o3, w, e, fun _ => hK 1 N G 0 0 u c mk h q_NR.rfl' (by omega) (by omega) (by omega) (by omega), fun _ => hK 2 N G 0 0 u c mk h q_NR.rfl' (by omega) (by omega) (by omega) (by omega)⟩, fun q => by omega⟩
  | succ j ih =>
    intro i p3 N G c K hij hp3 h hF hL hx hu hK
    have h64 := h.1.2.1.1
    have hL' := hL
    obtain ⟨a, n, sz, m, f, h1, h2, h3, h4, h5, h6, h7, h8⟩ := hL'
    have ox := hx.ob
    obtain ⟨sg, l, o1, o2, o3, w, fw, e, g1, g2, g3, g4, g5, g6, g7, g8, -⟩ := h.1.1.go ox
    have hs0 := q_og.sg (l := 0) hx e
    obtain ⟨x1, rfl⟩ : ∃ x, o1 = some x := by
      cases o1 with
      | none => exact absurd rfl (g8 hs0).1
      | some x => exact ⟨x, rfl⟩
    have hx1 := g5 x1 rfl
    obtain ⟨st, sl, e9⟩ := h.2.1
    obtain ⟨mt, fd, e10, -⟩ := h.1.2.2.2.1
    obtain ⟨q, q1, q2⟩ := h8 i (by omega)
    have q2' := q2
    obtain ⟨b1, b2, b3, t, g, lz, m1, m2, w1, w2, w3, d1, d2, d3, d4, d5, d6, d7⟩ := q2'
    have ec : p3.toNatClampNeg = i := i32_cl hp3
    refine k_71_2 ⟨by omega, a, sz, m, h3, fun q => by omega, fun _ => ⟨by omega, st, sp, sl, e9, fun q => by omega, fun _ => ⟨fun _ => ⟨(hF a h2).1, n, f, h6, by omega, by omega, q, by rw [ec]; exact q1, b1, b2, t, g, lz, d1, ox.1, ox.2.1, sg, l, some x1, o2, o3, w, e, fun z => (by cases z), fun x13 ex => ⟨by omega, mt, fd, e10, ?_⟩⟩, fun q => by omega⟩⟩⟩
    cases ex
    refine j_attempt h.1 (q_fU hF) q2 hx1 hu (fun v N1 G1 kc ks c1 t1 t2 t3 t4 t5 => ⟨v, rfl, ?_⟩)
    have i1 := h.ur t1 t2
    have r1 := q_NR.of t2
    obtain ⟨hE1, hF1⟩ := r1.fz hF
    have hN1 := t2.1.1
    have h641 := t1.2.1.1
    have hL1 := hL.fr hN1 hE1
    have hx' := hx.sl t2.1
    have ox1 := hx'.ob
    obtain ⟨sg1, l1, b1', b2', b3', w1', fw', e1', -, -, -, gl, -⟩ := i1.1.1.go ox1
    obtain ⟨st1, sl1, e91⟩ := i1.2.1
    have ei1 : (p3 + 1).toInt = ((i + 1 : Nat) : Int) := by
      rw [i32_succ (by omega) (by omega), hp3]
      omega
    have again : cT 82 sM_71 81 [(0, .ref 9), (1, .ref x), (2, .ref 8), (3, .int p3)] [] N1 G1 (fun r N2 G2 kc1 ks1 => K r N2 G2 (kc + kc1) (ks + ks1)) := by
      refine k_71_81 (ih (i + 1) (p3 + 1) N1 G1 c1 _ (by omega) ei1 i1 hF1 hL1 hx' hu (fun v N2 G2 kc2 ks2 u2 c2 mk2 s1 s2 s3 s4 s5 s6 => hK v N2 G2 (kc + kc2) (ks + ks2) u2 c2 mk2 s1 (r1.trans s2) s3 s4 (by omega) (by omega)))
    refine k_71_31 ⟨fun _ => ⟨fun _ => ⟨fun _ => again, fun h2' => ?_⟩, fun _ => hK 3 N1 G1 (kc + 0) (ks + 0) u c1 mk i1 r1 (by omega) (by omega) (by omega) (by omega)⟩, fun h0 => ⟨by omega, a, sz, m, (hE1 8 h1).trans h3, fun q => by omega, fun _ => ⟨fun _ => ⟨(hF1 a h2).1, n, f, (hE1 a h2).trans h6, by omega, by omega, q, by rw [ec]; exact q1, b1, by omega, t, g, lz, (hE1 q b3).trans d1, ox1.1, ox1.2.1, sg1, l1, b1', b2', b3', w1', e1', by omega, st1, sp, sl1, e91, ?_⟩, fun q => by omega⟩⟩⟩
    · obtain ⟨mt1, y, z1, z2⟩ := t3 h2'
      refine ⟨by omega, st1, sp, sl1, e91, by omega, mt1, some y, z1, fun z => (by cases z), fun x16 ex => ⟨ox1.1, ox1.2.1, sg1, l1, b1', b2', b3', w1', e1', ?_⟩⟩
      cases ex
      refine j_await i1 hx' z2 (fun G2 s1 s2 => ⟨rfl, ?_⟩)
      obtain ⟨hE2, hF2⟩ := s2.fz hF1
      have hL2 := hL1.fr (Nat.le_refl N1) hE2
      refine k_71_81 (ih (i + 1) (p3 + 1) N1 G2 c1 _ (by omega) ei1 s1 hF2 hL2 (hx'.sl s2.1) hu (fun v N2 G3 kc2 ks2 u2 c2 mk2 m1 m2 m3 m4 m5 m6 => ?_))
      have := hK v N2 G3 (kc + kc2) (ks + ks2) u2 c2 mk2 m1 ((r1.trans s2).trans m2) m3 m4 (by omega) (by omega)
      rw [Nat.zero_add, Nat.zero_add]
      exact this
    · exact j_putAll i1 hd1 hF1 (d4.fr hN1 (fun _ z => z) hE1) (by omega) (by omega) gl.1 gl.2 (fun v N2 G2 kc2 ks2 u2 c2 mk2 m1 m2 m3 m4 m5 m6 => ⟨v, rfl, hK v N2 G2 (kc + kc2) (ks + ks2) u2 c2 mk2 m1 (r1.trans m2) m3 (by omega) (by omega) (by omega)⟩)
theorem j_reduce (hd1 : hd ≤ 1) (h : q_nI N G u c mk hd sp) (hF : ∀ q, F q → q < N ∧ ¬ q_V G q) (hL : q_L8 F N G s) (hx : q_og N G (some x)) (hu : u + 48 ≤ 20000) (hK : ∀ (v : Int32) N1 G1 kc ks u1 c1 mk1, q_nI N1 G1 u1 c1 mk1 hd sp → q_NR N G N1 G1 → u ≤ u1 → u1 ≤ u + 48 → kc + c + 3 * mk ≤ c1 + 3 * mk1 → ks + 8 * c + 24 * mk ≤ 8 * c1 + 24 * mk1 → K (.inl (some (.int v))) N1 G1 kc ks) : cT 82 sM_71 0 [(0, .ref 9), (1, .ref x), (2, .ref 8)] [] N G K :=
  k_71_0 (j_reduce2 hd1 s 0 0 N G c K (by omega) rfl h hF hL hx hu hK)
/-- between two STEPS -/
def q_rI (N : Nat) (G : Nat → sx_C) (u c mk : Nat) : Prop := ∃ sp : Int32, q_nI N G u c mk 0 sp ∧ 0 ≤ sp.toInt ∧ sp.toInt ≤ 400 ∧ (u : Int) ≤ 49 * (sp.toInt + 1)
set_option maxHeartbeats 2000000 in
theorem j_step (h : q_rI N G u c mk) (hF : ∀ q, F q → q < N ∧ ¬ q_V G q) (hL : q_L8 F N G s) (hK : ∀ N1 G1 kc ks u1 c1 mk1, q_rI N1 G1 u1 c1 mk1 → q_NR N G N1 G1 → kc + c + 3 * mk ≤ c1 + 3 * mk1 → ks + 8 * c + 24 * mk ≤ 8 * c1 + 24 * mk1 → K (.inl none) N1 G1 kc ks) : cT 83 sM_69 0 [(0, .ref 9), (1, .ref 8)] [] N G K := by
  obtain ⟨sp, h, p0, p4, pu⟩ := h
  have h64 := h.1.2.1.1
  obtain ⟨st, sl, e9⟩ := h.2.1
  refine k_69_0 ⟨by omega, st, sp, sl, e9, fun hlt => ?_, fun hge => ?_⟩
  · refine j_first h ⟨none, rfl, fun _ => hK N G 0 0 u c mk ⟨sp, h, p0, p4, pu⟩ q_NR.rfl' (by omega) (by omega), fun x4 ex => (by cases ex)⟩ (fun G1 y t1 t2 t3 => ⟨some y, rfl, fun q => (by cases q), fun x4 ex => ?_⟩)
    cases ex
    have h641 := t1.1.2.1.1
    obtain ⟨st1, sl1, e91⟩ := t1.2.1
    have e1 : (sp + 1).toInt = sp.toInt + 1 := i32_succ p0 (by omega)
    obtain ⟨i1, r1⟩ := t1.n9 (sp := sp + 1) (st := st1) (sl := sl1)
    have hy := t3.sl r1.1
    have oy := hy.ob
    have R1 := t2.trans r1
    obtain ⟨hE1, hF1⟩ := R1.fz hF
    have hL1 := hL.fr R1.1.1 hE1
    obtain ⟨sg, l, o1, o2, o3, w, fw, e, g1, g2, g3, g4, g5, g6, g7, g8, -⟩ := i1.1.1.go oy
    have hs0 := q_og.sg (l := 0) hy e
    have fin : ∀ (v : Int32) (N2 : Nat) (G2 : Nat → sx_C) (kc ks u2 c2 mk2 : Nat), q_nI N2 G2 u2 c2 mk2 1 (sp + 1) → q_NR N G N2 G2 → q_og N2 G2 (some y) → u2 ≤ u + 49 → kc + c + 3 * mk ≤ c2 + 3 * mk2 → ks + 8 * c + 24 * mk ≤ 8 * c2 + 24 * mk2 → ∃ (v28 : Int32), (Sum.inl (some (.int v)) : Option Value ⊕ Nat) = .inl (some (.int v28)) ∧ 9 < N2 ∧ ∃ (i29_5 : Int32) (i29_6 : Int32) (i29_7 : Int32), G2 9 = oC 2 [.ref 10, .ref 17, .ref 18, .ref 20, .ref 22, .int i29_5, .int i29_6, .int i29_7] ∧ cT (2) sM_92 0 [(0, .ref 9), (1, .ref y), (2, .int v28)] [] (N2) G2 (fun r30 N30 G30 kc30 ks30 => r30 = .inl none ∧ K (.inl none) (N30) G30 (0 + kc + kc30) (0 + ks + ks30)) := by
      intro v N2 G2 kc ks u2 c2 mk2 d1 d2 d3 d4 d5 d6
      have h642 := d1.1.2.1.1
      obtain ⟨st2, sl2, e92⟩ := d1.2.1
      refine ⟨v, rfl, by omega, st2, sp + 1, sl2, e92, j_settle d1 d3 (fun G3 m1 m2 => ⟨rfl, ?_⟩)⟩
      exact hK N2 G3 (0 + kc + 0) (0 + ks + 0) u2 c2 mk2 ⟨sp + 1, m1, by omega, by omega, by omega⟩ (d2.trans m2) (by omega) (by omega)
    refine ⟨by omega, st1, sp, sl1, e91, oy.1, oy.2.1, sg, l, o1, o2, o3, w, e, fun h99 => ⟨fun h61 => ?_, fun h61 => ?_⟩, fun h99 => ?_⟩
    · exact j_reckon i1 (by omega) hy (fun sg' r' e' => by
        have := (oC_inj (e.symm.trans e')).2
        injection this with this _
        injection this with this
        rw [← this]
        exact ⟨h99, h61⟩) (fun v N2 G2 kc ks u2 c2 s1 s2 s3 s4 s5 s6 => fin v N2 G2 kc ks u2 c2 mk s1 (R1.trans s2) (hy.sl s2.1) (by omega) (by omega) (by omega))
    · refine ⟨fun q => absurd q ((g8 hs0).2 h99).1, fun x13 ex => ⟨fun q => absurd q (g8 hs0).1, fun x21 ex2 => ?_⟩⟩
      exact j_same i1 (g5 x21 ex2) (g6 x13 ex) (fun v G2 s1 s2 => fin v N G2 0 0 u c mk s1 (R1.trans s2) (hy.sl s2.1) (by omega) (by omega) (by omega))
    · exact j_reduce (by omega) i1 hF1 hL1 hy (by omega) (fun v N2 G2 kc ks u2 c2 mk2 s1 s2 s3 s4 s5 s6 => fin v N2 G2 kc ks u2 c2 mk2 s1 (R1.trans s2) (hy.sl s2.1) (by omega) s5 s6)
  · obtain ⟨i1, r1⟩ := h.n9 (sp := sp) (st := 3) (sl := sl)
    exact hK N _ 0 0 u c mk ⟨sp, i1, p0, p4, pu⟩ r1 (by omega) (by omega)
theorem j_more (h : q_nI N G u c mk hd sp) (hK : ∀ v : Int32, K (.inl (some (.int v))) N G 0 0) : cT 3 sM_68 0 [(0, .ref 9)] [] N G K := by
  have h64 := h.1.2.1.1
  obtain ⟨st, sl, e9⟩ := h.2.1
  exact k_68_0 ⟨by omega, st, sp, sl, e9, fun _ => hK 0, fun _ => j_gir (r := 0) h (fun v _ => ⟨rfl, rfl, rfl, rfl, v, rfl, fun _ => hK 0, fun _ => hK 1⟩)⟩
/-- an exception comes to be -/
theorem q_nI.exc {j : Nat} (h : q_nI N G u c mk hd sp) : q_nI (N + 1) (va_up G N (.inr (.inr j))) u c mk hd sp ∧ q_NR N G (N + 1) (va_up G N (.inr (.inr j))) := by
  refine h.new (by omega) (fun p hp => va_ne (by omega)) (fun p h1 h2 => ?_)
  rw [show p = N by omega, up_eq]
  exact q_ok.ex
theorem q_rI.exc {j : Nat} (h : q_rI N G u c mk) : q_rI (N + 1) (va_up G N (.inr (.inr j))) u c mk ∧ q_NR N G (N + 1) (va_up G N (.inr (.inr j))) := by
  obtain ⟨sp, h, r⟩ := h
  exact ⟨⟨sp, h.exc.1, r⟩, h.exc.2⟩
def q_x4 (r : Option Value ⊕ Nat) (N : Nat) (G : Nat → sx_C) : Prop := (∃ v : Int32, r = .inl (some (.int v))) ∨ ∃ x j, r = .inr x ∧ 5 ≤ x ∧ x < N ∧ G x = .inr (.inr j) ∧ j < 4
set_option maxHeartbeats 2000000 in
theorem j_run40 {p1 pl : Int32} (h100 : p1.toInt ≤ 100) : ∀ (j : Nat) (p2 : Int32) (N : Nat) (G : Nat → sx_C) (u c mk : Nat) (K : Option Value ⊕ Nat → Nat → (Nat → sx_C) → Nat → Nat → Prop), 0 ≤ p2.toInt → p2.toInt + (j : Int) = 101 → q_rI N G u c mk → (∀ q, F q → q < N ∧ ¬ q_V G q) → F 5 → G 5 = oC 0 [.ref 6, .int pl, .ref 8, .ref 9, .ref 31] → q_L8 F N G s → (∀ r N1 G1 kc ks u1 c1 mk1, q_rI N1 G1 u1 c1 mk1 → q_NR N G N1 G1 → kc + c + 3 * mk ≤ c1 + 3 * mk1 + 1 → ks + 8 * c + 24 * mk ≤ 8 * c1 + 24 * mk1 + 8 → (∃ v : Int32, r = .inl (some (.int v))) ∨ (∃ x j, r = .inr x ∧ 5 ≤ x ∧ x < N1 ∧ G1 x = .inr (.inr j) ∧ (j = 1 ∨ j = 2)) → K r N1 G1 kc ks) → cT 84 sM_67 40 [(0, .ref 5), (1, .int p1), (2, .int p2)] [] N G K := by
  intro j
  induction j with
  | zero =>
    intro p2 N G u c mk K h0 hj h hF f5 e5 hL hK
    obtain ⟨sp, hn, -⟩ := id h
    have h64 := hn.1.2.1.1
    obtain ⟨st, sl, e9⟩ := hn.2.1
    obtain ⟨s8, f8, p8, -⟩ := hn.1.1.rw (hn.1.2.1.row (x := 18) (Or.inl rfl))
    have ret : ∀ v : Int32, K (.inl (some (.int v))) N G 0 0 := fun v => hK _ N G 0 0 u c mk h q_NR.rfl' (by omega) (by omega) (Or.inl ⟨v, rfl⟩)
    have exc : ∀ j, j = 1 ∨ j = 2 → K (.inr N) (N + 1) (va_up G N (.inr (.inr j))) 1 6 := fun j hj => hK _ _ _ 1 6 u c mk h.exc.1 h.exc.2 (by omega) (by omega) (Or.inr ⟨N, j, rfl, by omega, by omega, up_eq, hj⟩)
    exact k_67_40 ⟨fun _ => ⟨by omega, pl, e5, by omega, st, sp, sl, e9, fun _ => ⟨fun _ => j_more hn (fun v => ⟨rfl, rfl, rfl, rfl, v, rfl, fun _ => ⟨by omega, s8, p8, fun _ => ret 2, fun _ => ret 1⟩, fun _ => ret 0⟩), fun _ => exc 1 (Or.inl rfl)⟩, fun _ => exc 2 (Or.inr rfl)⟩, fun q => by omega⟩
  | succ j ih =>
    intro p2 N G u c mk K h0 hj h hF f5 e5 hL hK
    obtain ⟨sp, hn, -⟩ := id h
    have h64 := hn.1.2.1.1
    obtain ⟨st, sl, e9⟩ := hn.2.1
    obtain ⟨s8, f8, p8, -⟩ := hn.1.1.rw (hn.1.2.1.row (x := 18) (Or.inl rfl))
    have ret : ∀ v : Int32, K (.inl (some (.int v))) N G 0 0 := fun v => hK _ N G 0 0 u c mk h q_NR.rfl' (by omega) (by omega) (Or.inl ⟨v, rfl⟩)
    have exc : ∀ j, j = 1 ∨ j = 2 → K (.inr N) (N + 1) (va_up G N (.inr (.inr j))) 1 6 := fun j hj => hK _ _ _ 1 6 u c mk h.exc.1 h.exc.2 (by omega) (by omega) (Or.inr ⟨N, j, rfl, by omega, by omega, up_eq, hj⟩)
    refine k_67_40 ⟨fun _ => ⟨by omega, pl, e5, by omega, st, sp, sl, e9, fun _ => ⟨fun _ => j_more hn (fun v => ⟨rfl, rfl, rfl, rfl, v, rfl, fun _ => ⟨by omega, s8, p8, fun _ => ret 2, fun _ => ret 1⟩, fun _ => ret 0⟩), fun _ => exc 1 (Or.inl rfl)⟩, fun _ => exc 2 (Or.inr rfl)⟩, fun hlt => ⟨by omega, pl, e5, by omega, st, sp, sl, e9, j_more hn (fun v => ⟨rfl, rfl, rfl, rfl, v, rfl, fun _ => ⟨fun _ => ⟨fun _ => j_more hn (fun v => ⟨rfl, rfl, rfl, rfl, v, rfl, fun _ => ⟨by omega, s8, p8, fun _ => ret 2, fun _ => ret 1⟩, fun _ => ret 0⟩), fun _ => exc 1 (Or.inl rfl)⟩, fun _ => exc 2 (Or.inr rfl)⟩, fun _ => ?_⟩)⟩⟩
    refine j_step h hF hL (fun N1 G1 kc ks u1 c1 mk1 t1 t2 t3 t4 => ⟨rfl, ?_⟩)
    obtain ⟨hE1, hF1⟩ := t2.fz hF
    have hL1 := hL.fr t2.1.1 hE1
    exact ih (p2 + 1) N1 G1 u1 c1 mk1 _ (by rw [i32_succ h0 (by omega)]; omega) (by rw [i32_succ h0 (by omega)]; omega) t1 hF1 f5 ((hE1 5 f5).trans e5) hL1 (fun r N2 G2 kc2 ks2 u2 c2 mk2 s1 s2 s3 s4 s5 => hK r N2 G2 (kc + kc2) (ks + ks2) u2 c2 mk2 s1 (t2.trans s2) (by omega) (by omega) s5)
theorem j_run {p1 pl : Int32} (h : q_rI N G u c mk) (hF : ∀ q, F q → q < N ∧ ¬ q_V G q) (f5 : F 5) (e5 : G 5 = oC 0 [.ref 6, .int pl, .ref 8, .ref 9, .ref 31]) (hL : q_L8 F N G s) (hK : ∀ r N1 G1 kc ks u1 c1 mk1, q_rI N1 G1 u1 c1 mk1 → q_NR N G N1 G1 → kc + c + 3 * mk ≤ c1 + 3 * mk1 + 1 → ks + 8 * c + 24 * mk ≤ 8 * c1 + 24 * mk1 + 8 → (∃ v : Int32, r = .inl (some (.int v))) ∨ (∃ x j, r = .inr x ∧ 5 ≤ x ∧ x < N1 ∧ G1 x = .inr (.inr j) ∧ (j = 0 ∨ j = 1 ∨ j = 2)) → K r N1 G1 kc ks) : cT 84 sM_67 0 [(0, .ref 5), (1, .int p1)] [] N G K := by
  obtain ⟨sp, hn, -⟩ := id h
  have h64 := hn.1.2.1.1
  obtain ⟨st, sl, e9⟩ := hn.2.1
  have exc : ∀ j, j = 0 ∨ j = 1 ∨ j = 2 → K (.inr N) (N + 1) (va_up G N (.inr (.inr j))) 1 6 := fun j hj => hK _ _ _ 1 6 u c mk h.exc.1 h.exc.2 (by omega) (by omega) (Or.inr ⟨N, j, rfl, by omega, by omega, up_eq, hj⟩)
  refine k_67_0 ⟨fun _ => exc 0 (Or.inl rfl), fun _ => ⟨fun h100 => ⟨by omega, pl, e5, by omega, st, sp, sl, e9, fun _ => ?_, fun _ => exc 1 (Or.inr (Or.inl rfl))⟩, fun _ => exc 0 (Or.inl rfl)⟩⟩
  exact j_run40 (pl := pl) h100 101 0 N G u c mk K (by decide) rfl h hF f5 e5 hL (fun r N1 G1 kc ks u1 c1 mk1 t1 t2 t3 t4 t5 => hK r N1 G1 kc ks u1 c1 mk1 t1 t2 t3 t4 (t5.imp (fun q => q) (fun ⟨x, j, q1, q2, q3, q4, q5⟩ => ⟨x, j, q1, q2, q3, q4, Or.inr q5⟩)))
end QS
