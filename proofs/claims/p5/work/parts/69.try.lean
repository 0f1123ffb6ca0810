/-! Use.match, check, attempt -/
def q_Cl (F : Nat → Prop) (N : Nat) (G : Nat → sx_C) (p : Nat) : Prop := 5 ≤ p ∧ p < N ∧ F p ∧ ∃ (t g l m1 m2 w1 w2 w3 : Nat), G p = oC 8 [.ref t, .ref g, .ref l] ∧ q_Tm F N G 5 t w1 ∧ q_Li F N G false g m1 w2 ∧ q_Li F N G true l m2 w3 ∧ w1 + w2 + w3 ≤ 48 ∧ m1 ≤ 48 ∧ m2 ≤ 48
theorem q_Cl.fr {F F1 : Nat → Prop} {N N1 p : Nat} {G G1 : Nat → sx_C} (hN : N ≤ N1) (hF : ∀ q, F q → F1 q) (e : ∀ q, F q → G1 q = G q) (h : q_Cl F N G p) : q_Cl F1 N1 G1 p := by
  obtain ⟨h1, h2, h3, t, g, l, m1, m2, w1, w2, w3, e1, e2, e3, e4, e5, e6, e7⟩ := h
  exact ⟨h1, by omega, hF _ h3, t, g, l, m1, m2, w1, w2, w3, (e p h3).trans e1, e2.fr hN hF e, e3.fr hN hF e, e4.fr hN hF e, e5, e6, e7⟩
section QA
variable {F : Nat → Prop} {N u c : Nat} {G : Nat → sx_C} {K : Option Value ⊕ Nat → Nat → (Nat → sx_C) → Nat → Nat → Prop}
set_option maxHeartbeats 2000000 in
theorem j_match : ∀ (r p w y : Nat) (G : Nat → sx_C) (K : Option Value ⊕ Nat → Nat → (Nat → sx_C) → Nat → Nat → Prop), q_uI N G u c → (∀ q, F q → q < N ∧ ¬ q_U G q) → q_Tm F N G r p w → q_ob N G y 10 → (∀ (v : Int32) G1, q_uI N G1 u c → q_UR N G N G1 → (v.toInt = 2 → q_Fd N G1) → K (.inl (some (.int v))) N G1 0 0) → cT (4 * r) sM_73 0 [(0, .ref 10), (1, .ref p), (2, .ref y)] [] N G K := by
  intro r
  induction r with
  | zero =>
    intro p w y G K h hF hT
    exact hT.elim
  | succ r ih =>
    intro p w y G K h hF hT hy hK
    obtain ⟨h5, hpN, f1, f2, k, v, s, cp, n, m, f, ws, e1, e2, e3, e4, e5, e6, e7, e8⟩ := hT
    have h64 := h.2.1.1
    show cT (4 * r + 4) sM_73 0 _ _ _ _ _
    have loop : ∀ (j i : Nat) (p4 p5 : Int32) (G1 : Nat → sx_C) (z : Nat), i + j = m → p5.toInt = (i : Int) → q_uI N G1 u c → q_UR N G N G1 → q_ob N G1 z 10 → (∀ i, i < m → q_nn N G1 (z + 1) i) → (p4.toInt = 2 → q_Fd N G1) → cT (4 * r + 4) sM_73 110 [(0, .ref 10), (1, .ref p), (2, .ref y), (3, .ref z), (4, .int p4), (5, .int p5)] [] N G1 K := by
      intro j
      induction j with
      | zero =>
        intro i p4 p5 G1 z hij hp5 hI hR hz hn h4
        obtain ⟨hE, hF1⟩ := hR.fz hF
        exact k_73_110 ⟨h5, by omega, k, v, s, cp, (hE p f1).trans e1, fun _ => hK p4 G1 hI hR h4, fun q => by omega⟩
      | succ j ihj =>
        intro i p4 p5 G1 z hij hp5 hI hR hz hn h4
        obtain ⟨hE, hF1⟩ := hR.fz hF
        obtain ⟨q, g1, g2⟩ := e7 i (by omega)
        have ec : p5.toNatClampNeg = i := i32_cl hp5
        obtain ⟨mt, fd, e10, -⟩ := hI.2.2.2.1
        obtain ⟨a1, a2, a3, a4, fp, b1, b2, b3, -⟩ := hI.1.nd hz
        have z5 := hz.1
        obtain ⟨x10, b4, b5⟩ := hI.1.el (by omega) b3 (hn i (by omega))
        have ei1 : (p5 + 1).toInt = ((i + 1 : Nat) : Int) := by
          rw [i32_succ (by omega) (by omega), hp5]
          omega
        refine k_73_110 ⟨h5, by omega, k, v, s, cp, (hE p f1).trans e1, fun z => by omega, fun _ => ⟨fun _ => hK p4 G1 hI hR h4, fun _ => ⟨by omega, by omega, n, f, (hE _ f2).trans e2, by omega, by omega, q, by rw [ec]; exact g1, hz.1, hz.2.1, a1, a2, a3, a4, b1, by omega, b2, fp, b3, by omega, by omega, x10, by rw [ec]; exact b4, by omega, mt, fd, e10, ?_⟩⟩⟩
        refine ih q (ws i) x10 G1 _ hI hF1 (g2.fr (Nat.le_refl N) (fun _ z => z) hE) b5 (fun v2 G2 t1 t2 t3 => ⟨v2, rfl, ?_⟩)
        refine (ihj (i + 1) v2 (p5 + 1) G2 z (by omega) ei1 t1 (hR.trans t2) (hz.sl t2.1) (fun i hi => (hn i hi).sl t2.1) t3).mono (fun r N1 G1 kc ks q => ?_)
        rw [Nat.zero_add, Nat.zero_add]
        exact q
    obtain ⟨mt, fd, e10, hm, hfd⟩ := h.2.2.2.1
    obtain ⟨f16, e16⟩ := h.2.1.a 16 6 26 rfl
    obtain ⟨n1, n2, n3, n4, -, en, -⟩ := h.1.nd hy
    refine k_73_0 ⟨hy.1, hy.2.1, n1, n2, n3, n4, en, c_at h.1 hy (fun z hz => ⟨rfl, rfl, rfl, rfl, some z, rfl, h5, by omega, k, v, s, cp, e1, fun hk => ⟨fun _ => ⟨fun q => (by cases q), fun x75 ex => ?_⟩, fun q => absurd q hk⟩, fun hk => ⟨by omega, mt, fd, e10, fun hb => ⟨fun q => absurd hk q, fun _ => ⟨fun q => (by cases q), fun x8 ex => ?_⟩⟩, fun hb => ?_⟩⟩)⟩
    · cases ex
      obtain ⟨z1, z2, z3, z4, fz, ez, w2, w3, w4, w5, w6, w7, w8, w9⟩ := h.1.nd hz
      refine ⟨hz.1, hz.2.1, z1, z2, z3, z4, ez, fun _ => ⟨fun _ => hK 1 G h q_UR.rfl' (fun q => (by cases q)), fun _ => ⟨fun _ => hK 1 G h q_UR.rfl' (fun q => (by cases q)), fun _ => ⟨fun es => ?_, fun _ => hK 1 G h q_UR.rfl' (fun q => (by cases q))⟩⟩⟩, fun _ => ⟨by omega, mt, fd, e10, ?_⟩⟩
      · exact loop m 0 0 0 G z (by omega) rfl h q_UR.rfl' hz (fun i hi => w9 i (by omega)) (fun q => (by cases q))
      · obtain ⟨s1, s2⟩ := c_wait (o := some z) h e10 (q_oo.some hz)
        exact hK 2 _ s1 s2 (fun _ => ⟨mt, z, up_eq, hz.sl s2.1⟩)
    · cases ex
      obtain ⟨v0, v26⟩ := e6.1 hk
      obtain ⟨z1, z2, z3, z4, -, ez, -⟩ := h.1.nd hz
      obtain ⟨i2, r2, m2⟩ := c_meet h e10 e16 hz v0 v26
      exact ⟨by omega, f16, e16, v0, v26, hz.1, hz.2.1, z1, z2, z3, z4, ez, hK 0 _ i2 r2 (fun q => (by cases q))⟩
    · obtain ⟨v0, v26⟩ := e6.1 hk
      have ev : v.toInt = ((v.toNatClampNeg : Nat) : Int) := by
        show v.toInt = ((v.toInt.toNat : Nat) : Int)
        omega
      obtain ⟨x44, g1, g2⟩ := h.1.el (by decide) e16 (hm v v.toNatClampNeg ev (by omega) hb)
      refine ⟨by omega, f16, e16, v0, v26, x44, g1, fun q => (by cases q), fun x45 ex => ?_⟩
      cases ex
      exact c_compare h g2 hz (fun v2 G1 t1 t2 t3 => ⟨v2, rfl, hK v2 G1 t1 t2 t3⟩)
theorem q_S.lim (h : q_S N G u c) {sz : Int32} {a : Nat} {m : Value} (e : G 12 = oC 13 [.ref a, .int sz, m]) : (u : Int) ≤ sz.toInt := by
  obtain ⟨us, vr, sz', m', b, n, z, f, h1, h2, h3, h4, h5, -⟩ := h
  have := (oC_inj (e.symm.trans h3)).2
  cases this
  omega
theorem j_tm {r p w : Nat} (h : q_Tm F N G r p w) : 5 ≤ p ∧ p < N ∧ ∃ (k v s cp : Int32), G p = oC 7 [.int k, .int v, .ref (p + 1), .int s, .int cp] := by
  cases r with
  | zero => exact h.elim
  | succ r =>
    obtain ⟨h5, hpN, f1, f2, k, v, s, cp, n, m, f, ws, e1, -⟩ := h
    exact ⟨h5, by omega, k, v, s, cp, e1⟩
set_option maxHeartbeats 2000000 in
theorem j_check {p w : Nat} (h : q_uI N G u c) (hF : ∀ q, F q → q < N ∧ ¬ q_U G q) (hT : q_It F N G false p w) (hw : u + w ≤ 20000) (hK : ∀ (v : Int32) N1 G1 kc ks c1, q_uI N1 G1 u c1 → q_UR N G N1 G1 → (v.toInt = 2 → q_Fd N1 G1) → kc + c ≤ c1 → ks + 8 * c ≤ 8 * c1 → K (.inl (some (.int v))) N1 G1 kc ks) : cT 61 sM_82 0 [(0, .ref 10), (1, .ref p)] [] N G K := by
  have h64 := h.2.1.1
  obtain ⟨h5, hpN, f1, sg, lv, t1w, o2, o3, w1, w2, w3, e1, e2, e3, e4, e5, e6, -⟩ := hT
  obtain ⟨x3, rfl⟩ : ∃ x, o2 = some x := by
    cases o2 with
    | none => exact absurd rfl (e6 rfl)
    | some x => exact ⟨x, rfl⟩
  have e3' := e3 x3 rfl
  obtain ⟨a1, a2, a3, a4, a5, a6, a7⟩ := j_tm e2
  obtain ⟨b1, b2, b3, b4, b5, b6, b7⟩ := j_tm e3'
  obtain ⟨mt, fd, e10, hm, hfd⟩ := h.2.2.2.1
  obtain ⟨us, vr, sz, mc, al, nl, sl, fl, l1, l2, -⟩ := h.2.2.2.2
  have fin : ∀ (p5 : Int32) (N1 : Nat) (G1 : Nat → sx_C) (kc ks u1 c1 : Nat), q_uI N1 G1 u1 c1 → q_UR N G N1 G1 → u ≤ u1 → (p5.toInt = 2 → q_Fd N1 G1) → kc + c ≤ c1 → ks + 8 * c ≤ 8 * c1 → cT 61 sM_82 82 [(0, .ref 10), (1, .ref p), (2, .int us), (5, .int p5)] [] N1 G1 (fun r N2 G2 kc1 ks1 => K r N2 G2 (kc + kc1) (ks + ks1)) := by
    intro p5 N1 G1 kc ks u1 c1 t1 t2 t3 t4 t5 t6
    have h641 := t1.2.1.1
    obtain ⟨mt1, fd1, e101, -⟩ := t1.2.2.2.1
    obtain ⟨us1, vr1, sz1, mc1, al1, nl1, sl1, fl1, l11, -⟩ := t1.2.2.2.2
    obtain ⟨hE, hF1⟩ := t2.fz hF
    have hN := t2.1.1
    obtain ⟨i2, r2⟩ := t1.e11 (u1 := u) (us := us) (vr := vr1) l2 (fun sz' a' m' e' => by
      have := t1.2.2.2.2.lim e'
      omega)
    have np : p ≠ 11 := fun q => by
      have := h.2.1.oj 11 4 rfl
      obtain ⟨fs, q2⟩ := this
      rw [q, q2] at e1
      exact absurd (oC_inj e1).1 (by decide)
    have fd2 : p5.toInt = 2 → q_Fd N1 (va_up G1 11 (oC 4 [.ref 12, .int us, .int vr1])) := fun q => by
      obtain ⟨m, y, g1, g2⟩ := t4 q
      exact ⟨m, y, (va_ne (by decide)).trans g1, g2.sl r2.1⟩
    have ret : ∀ v : Int32, (v.toInt = 2 → p5.toInt = 2) → K (.inl (some (.int v))) N1 (va_up G1 11 (oC 4 [.ref 12, .int us, .int vr1])) (kc + 0) (ks + 0) := fun v hv => hK v N1 _ _ _ c1 i2 (t2.trans r2) (fun q => fd2 (hv q)) (by omega) (by omega)
    exact k_82_82 ⟨by omega, mt1, fd1, e101, by omega, us1, vr1, l11, h5, by omega, sg, lv, t1w, some x3, o3, (va_ne np).trans ((hE p f1).trans e1), fun _ => ret p5 (fun q => q), fun _ => ⟨fun _ => ⟨fun _ => ret p5 (fun q => q), fun _ => ret 0 (fun q => (by cases q))⟩, fun _ => ret 1 (fun q => (by cases q))⟩⟩
  refine k_82_0 ⟨h5, hpN, sg, lv, t1w, some x3, o3, e1, a1, a2, a3, a4, a5, a6, a7, fun q => (by cases q), fun x ex => ?_⟩
  cases ex
  refine ⟨b1, b2, b3, b4, b5, b6, b7, by omega, mt, fd, e10, fun _ => ⟨by omega, us, vr, l1, ?_⟩, fun _ => hK 1 N G 0 0 c h q_UR.rfl' (fun q => (by cases q)) (by omega) (by omega)⟩
  refine (j_build 5 t1w w1 N G u c _ h hF e2 (by omega) (fun y N1 G1 kc ks u1 c1 s1 s2 s3 s4 s5 s6 s7 => ?_)).dep (by omega)
  have h641 := s1.2.1.1
  have hN1 := s2.1.1
  obtain ⟨hE1, hF1⟩ := s2.fz hF
  obtain ⟨mt1, fd1, e101, -⟩ := s1.2.2.2.1
  refine ⟨some y, rfl, h5, by omega, sg, lv, t1w, some x3, o3, (hE1 p f1).trans e1, fun q => (by cases q), fun x ex => ?_⟩
  cases ex
  refine ⟨by omega, mt1, fd1, e101, ?_⟩
  refine (j_build 5 x3 w2 N1 G1 u1 c1 _ s1 hF1 (e3'.fr hN1 (fun _ z => z) hE1) (by omega) (fun y2 N2 G2 kc2 ks2 u2 c2 v1 v2 v3 v4 v5 v6 v7 => ⟨some y2, rfl, ?_⟩)).dep (by omega)
  have h642 := v1.2.1.1
  have hN2 := v2.1.1
  have R2 := s2.trans v2
  obtain ⟨hE2, hF2⟩ := R2.fz hF
  obtain ⟨mt2, fd2, e102, -⟩ := v1.2.2.2.1
  refine k_82_54 ⟨h5, by omega, sg, lv, t1w, some x3, o3, (hE2 p f1).trans e1, fun _ => ⟨fun q => (by cases q), fun x ex => ⟨fun q => (by cases q), fun x' ex' => ⟨by omega, mt2, fd2, e102, ?_⟩⟩⟩, fun _ => ⟨fun q => (by cases q), fun x ex => ⟨fun q => (by cases q), fun x' ex' => ⟨by omega, mt2, fd2, e102, ?_⟩⟩⟩⟩
  · cases ex
    cases ex'
    refine c_compare v1 (s3.sl v2.1) v3 (fun v3' G3 d1 d2 d3 => ⟨v3', rfl, ?_⟩)
    refine (fin v3' N2 G3 (kc + kc2) (ks + ks2) u2 c2 d1 (R2.trans d2) (by omega) d3 (by omega) (by omega)).mono (fun r N4 G4 kc4 ks4 q => ?_)
    rw [Nat.zero_add, Nat.zero_add]
    exact q
  · cases ex
    cases ex'
    refine c_below v1 (s3.sl v2.1) v3 (fun v3' G3 d1 d2 d3 => ⟨v3', rfl, ?_⟩)
    refine (fin v3' N2 G3 (kc + kc2) (ks + ks2) u2 c2 d1 (R2.trans d2) (by omega) d3 (by omega) (by omega)).mono (fun r N4 G4 kc4 ks4 q => ?_)
    rw [Nat.zero_add, Nat.zero_add]
    exact q
theorem q_wsi {ws : Nat → Nat} {i m : Nat} (h : i < m) : ws i ≤ q_sm ws m := by
  have h1 : q_sm ws (i + 1) ≤ q_sm ws m := q_sm_le h
  have h2 : q_sm ws (i + 1) = q_sm ws i + ws i := rfl
  omega
set_option maxHeartbeats 2000000 in
theorem j_attempt {p y : Nat} (h : q_uI N G u c) (hF : ∀ q, F q → q < N ∧ ¬ q_U G q) (hC : q_Cl F N G p) (hy : q_ob N G y 10) (hw : u + 48 ≤ 20000) (hK : ∀ (v : Int32) N1 G1 kc ks c1, q_uI N1 G1 u c1 → q_UR N G N1 G1 → (v.toInt = 2 → q_Fd N1 G1) → kc + c ≤ c1 → ks + 8 * c ≤ 8 * c1 → K (.inl (some (.int v))) N1 G1 kc ks) : cT 81 sM_72 0 [(0, .ref 10), (1, .ref p), (2, .ref y)] [] N G K := by
  have h64 := h.2.1.1
  obtain ⟨h5, hpN, f1, t, g, l, m1, m2, w1, w2, w3, e1, e2, e3, e4, e5, e6, e7⟩ := hC
  obtain ⟨g5, gN, fg, a, n, sz, mc, f, ws, d1, d2, d3, d4, d5, d6, d7, d8⟩ := e3
  obtain ⟨mt, fd, e10, hm, hfd⟩ := h.2.2.2.1
  obtain ⟨i1, r1⟩ := h.e10 (mt := 0) (fd := none) (fun w k hw hk hb => absurd (q_bit0 hw hk) hb) q_oo.none
  have np : p ≠ 10 := fun q => by
    obtain ⟨fs, q2⟩ := h.2.1.oj 10 3 rfl
    rw [q, q2] at e1
    exact absurd (oC_inj e1).1 (by decide)
  obtain ⟨hE1, hF1⟩ := r1.fz hF
  have loop : ∀ (j i : Nat) (p3 p4 : Int32) (N1 : Nat) (G1 : Nat → sx_C) (kc ks c1 : Nat), i + j = m1 → p4.toInt = (i : Int) → q_uI N1 G1 u c1 → q_UR N G N1 G1 → (p3.toInt = 2 → q_Fd N1 G1) → kc + c ≤ c1 → ks + 8 * c ≤ 8 * c1 → cT 81 sM_72 17 [(0, .ref 10), (1, .ref p), (2, .ref y), (3, .int p3), (4, .int p4)] [] N1 G1 (fun r N2 G2 kc1 ks1 => K r N2 G2 (kc + kc1) (ks + ks1)) := by
    intro j
    induction j with
    | zero =>
      intro i p3 p4 N1 G1 kc ks c1 hij hp4 hI hR h2 hkc hks
      obtain ⟨hE, hFi⟩ := hR.fz hF
      have hN := hR.1.1
      exact k_72_17 ⟨h5, by omega, t, g, l, (hE p f1).trans e1, g5, by omega, a, sz, mc, (hE g fg).trans d1, fun _ => hK p3 N1 G1 _ _ c1 hI hR h2 (by omega) (by omega), fun q => by omega⟩
    | succ j ihj =>
      intro i p3 p4 N1 G1 kc ks c1 hij hp4 hI hR h2 hkc hks
      obtain ⟨hE, hFi⟩ := hR.fz hF
      have hN := hR.1.1
      have h641 := hI.2.1.1
      obtain ⟨q, q1, q2⟩ := d7 i (by omega)
      have q2' := q2.fr hN (fun _ z => z) hE
      obtain ⟨b1, b2, b3, sg, lv, t1, o2, o3, w1', w2', w3', b4, -⟩ := q2'
      have ec : p4.toNatClampNeg = i := i32_cl hp4
      obtain ⟨mt1, fd1, e101, -⟩ := hI.2.2.2.1
      have hwi : ws i ≤ q_sm ws m1 := q_wsi (by omega)
      refine k_72_17 ⟨h5, by omega, t, g, l, (hE p f1).trans e1, g5, by omega, a, sz, mc, (hE g fg).trans d1, fun q => by omega, fun _ => ⟨fun _ => hK p3 N1 G1 _ _ c1 hI hR h2 (by omega) (by omega), fun _ => ⟨fun q => by omega, fun _ => ⟨fun _ => ⟨by omega, n, f, (hE a d4).trans d5, by omega, by omega, q, by rw [ec]; exact q1, b1, b2, sg, lv, t1, o2, o3, b4, by omega, mt1, fd1, e101, ?_⟩, fun q => by omega⟩⟩⟩⟩
      refine j_check hI hFi (q2.fr hN (fun _ z => z) hE) (by omega) (fun v N2 G2 kc2 ks2 c2 s1 s2 s3 s4 s5 => ⟨v, rfl, ?_⟩)
      refine (ihj (i + 1) v (p4 + 1) N2 G2 (kc + kc2) (ks + ks2) c2 (by omega) (by rw [i32_succ (by omega) (by omega), hp4]; omega) s1 (hR.trans s2) s3 (by omega) (by omega)).mono (fun r N3 G3 kc3 ks3 q => ?_)
      rw [← Nat.add_assoc, ← Nat.add_assoc]
      exact q
  refine k_72_0 ⟨by omega, mt, fd, e10, h5, hpN, t, g, l, (va_ne np).trans e1, ?_⟩
  refine (j_match 5 t w1 y _ _ i1 hF1 (e2.fr (Nat.le_refl N) (fun _ z => z) hE1) (hy.sl r1.1) (fun v G2 s1 s2 s3 => ⟨v, rfl, ?_⟩)).dep (by omega)
  exact loop m1 0 v 0 N G2 0 0 c (by omega) rfl s1 (r1.trans s2) s3 (by omega) (by omega)
end QA
