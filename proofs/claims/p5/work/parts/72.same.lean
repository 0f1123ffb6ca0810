/-! Network.wake, join, makeSame, reckon, settle, takeFirst -/
section QW
variable {F : Nat → Prop} {N N1 x y u c mk hd : Nat} {G G1 : Nat → sx_C} {sp : Int32} {K : Option Value ⊕ Nat → Nat → (Nat → sx_C) → Nat → Nat → Prop}
theorem cT.z {h : Nat} {M : sx_M} {pc : Nat} {lv : List (Nat × Value)} {st : List Value} (hh : cT h M pc lv st N G K) : cT h M pc lv st N G (fun r N1 G1 kc1 ks1 => K r N1 G1 (0 + kc1) (0 + ks1)) := hh.mono (fun r N1 G1 kc ks q => by
  rw [Nat.zero_add, Nat.zero_add]
  exact q)
set_option maxHeartbeats 1000000 in
theorem j_wake10 : ∀ (k : Nat) (p2 p3 : Int32) (G : Nat → sx_C), q_nI N G u c mk hd sp → p3.toInt = (k : Int) → 0 ≤ p2.toInt → p2.toInt + p3.toInt ≤ 100 → q_ob N G y 10 → (∀ G1, q_nI N G1 u c mk hd sp → q_NR N G N G1 → K (.inl none) N G1 0 0) → cT 3 sM_97 10 [(0, .ref 9), (1, .ref y), (2, .int p2), (3, .int p3)] [] N G K := by
  intro k
  induction k with
  | zero =>
    intro p2 p3 G h hk h0 h1 hy hK
    exact k_97_10 ⟨fun _ => hK G h q_NR.rfl', fun q => by omega⟩
  | succ k ih =>
    intro p2 p3 G h hk h0 h1 hy hK
    have h64 := h.1.2.1.1
    obtain ⟨st, sl, e9⟩ := h.2.1
    obtain ⟨s8, f8, p8, a8, b8, c8, d8, g8, -⟩ := h.1.1.rw (h.1.2.1.row (x := 18) (Or.inl rfl))
    obtain ⟨q3, eq3, hq3⟩ := i32_mm (x := p3) (by omega) (by omega)
    have e21 : (p2 + 1).toInt = p2.toInt + 1 := i32_succ h0 (by omega)
    have again : cT 3 sM_97 10 [(0, .ref 9), (1, .ref y), (2, .int (p2 + 1)), (3, .int q3)] [] N G K := ih (p2 + 1) q3 G h (by omega) (by omega) (by omega) hy hK
    refine k_97_10 ⟨fun q => by omega, fun _ => ?_⟩
    rw [eq3]
    refine ⟨by omega, st, sp, sl, e9, by omega, s8, p8, fun q => by omega, fun _ => ⟨fun _ => again, fun hlt => ?_⟩⟩
    obtain ⟨z, z1, z2⟩ := g8 p2.toInt.toNat (by omega)
    have oz := z2.ob
    obtain ⟨sg, l, o1, o2, o3, w, f, e, -⟩ := h.1.1.go oz
    refine ⟨by omega, f8, b8, h0, by omega, z, z1, oz.1, oz.2.1, sg, l, o1, o2, o3, w, e, j_awaits h.1.1 oz hy (fun v => ⟨rfl, rfl, rfl, rfl, v, rfl, fun _ => again, fun _ => ?_⟩)⟩
    refine j_take h (x := 18) (Or.inl rfl) p8 h0 hlt (fun G1 y' f' k1 k2 t1 t2 t3 t4 t5 => ⟨some y', rfl, ?_⟩)
    obtain ⟨-, -, rfl⟩ := aC_inj (b8.symm.trans k1)
    have k2' : f8 p2.toInt.toNat = some y' := k2
    rw [z1] at k2'
    cases k2'
    have oz1 := t5.ob
    obtain ⟨sg1, l1, b1, b2, b3, w1, f1, e1, g1, g2, g3, g4, g5, g6, g7, g9, g10⟩ := t1.1.1.go oz1
    obtain ⟨i1, r1⟩ := t1.up (x := z) (d := oC 11 [.int sg1, .int l1, va_rf b1, va_rf b2, va_rf b3, .ref (z + 1), .int 0]) (q_le.g e1 (fun q => q_gl.of q.to)) (fun s => q_ok.go ⟨sg1, l1, b1, b2, b3, 0, rfl, g1, s.ar g1 ⟨f1, g2⟩, ⟨by decide, by decide⟩, g4, g5.sl s, g6.sl s, g7.sl s, g9⟩) (Or.inl ⟨_, e1⟩)
    have hz : q_og N (va_up G1 z (oC 11 [.int sg1, .int l1, va_rf b1, va_rf b2, va_rf b3, .ref (z + 1), .int 0])) (some z) := t5.sl r1.1
    obtain ⟨st1, sl1, e91⟩ := i1.2.1
    obtain ⟨f17, x54, q1, q2, q3'⟩ := i1.2.rowN g4.1 g4.2
    have hb := q3'.le
    obtain ⟨s, fr, u1, u2, u3, -⟩ := i1.1.1.rw (i1.1.2.1.row q3')
    obtain ⟨a1, a2, a3, a4⟩ := i1.app q3' u1 u3 hz
    refine ⟨oz1.1, oz1.2.1, sg1, l1, b1, b2, b3, w1, e1, by omega, st1, sp, sl1, e91, by omega, f17, q1, g4.1, g4.2, x54, q2, by omega, by omega, s, u1, by omega, u2, fr, u3, fun q => by omega, fun _ => ⟨a2, a1, ?_⟩⟩
    have R := (t2.trans r1).trans a4
    exact (ih p2 q3 _ a3 (by omega) h0 (by omega) (hy.sl R.1) (fun G2 d1 d2 => hK G2 d1 (R.trans d2))).z
theorem j_wake (h : q_nI N G u c mk hd sp) (hy : q_ob N G y 10) (hK : ∀ G1, q_nI N G1 u c mk hd sp → q_NR N G N G1 → K (.inl none) N G1 0 0) : cT 3 sM_97 0 [(0, .ref 9), (1, .ref y)] [] N G K := by
  have h64 := h.1.2.1.1
  obtain ⟨st, sl, e9⟩ := h.2.1
  obtain ⟨s8, f8, p8, a8, b8, c8, d8, g8, -⟩ := h.1.1.rw (h.1.2.1.row (x := 18) (Or.inl rfl))
  exact k_97_0 ⟨by omega, st, sp, sl, e9, by omega, s8, p8, j_wake10 s8.toInt.toNat 0 s8 G h (by omega) (by decide) (by show 0 + _ ≤ _; omega) hy hK⟩
/-- a VARIABLE is written -/
theorem j_written {k v s : Int32} {o : Option Nat} (h : q_nI N G u c mk hd sp) (hx : q_ob N G x 10) (hy : q_ob N G y 10) (e : G x = oC 10 [.ref (x + 1), .int k, .int v, .int s, va_rf o]) (hK : ∀ G1, q_nI N G1 u c mk hd sp → q_NR N G N G1 → K (.inl none) N G1 0 0) : ∃ (i5 i6 i7 : Int32), (va_up G x (oC 10 [.ref (x + 1), .int k, .int v, .int s, .ref y])) 9 = oC 2 [.ref 10, .ref 17, .ref 18, .ref 20, .ref 22, .int i5, .int i6, .int i7] ∧ cT 3 sM_97 0 [(0, .ref 9), (1, .ref x)] [] N (va_up G x (oC 10 [.ref (x + 1), .int k, .int v, .int s, .ref y])) (fun r N1 G1 kc ks => r = .inl none ∧ K (.inl none) N1 G1 kc ks) := by
  obtain ⟨a1, a2, a3, a4, f, b1, b2, b3, b4, b5, b6, b7, b8, b9⟩ := h.1.1.nd hx
  have ee := (oC_inj (e.symm.trans b1)).2
  have es : s = a3 := by
    injection ee with _ ee
    injection ee with _ ee
    injection ee with _ ee
    injection ee with ee _
    injection ee
  subst es
  obtain ⟨i1, r1⟩ := h.1.en (k := k) (v := v) (s := s) (o := some y) hx b4 b5 b9 (q_oo.some hy) (h.1.1.kv hx e)
  have i2 := h.ur i1 r1
  obtain ⟨st, sl, e9⟩ := i2.2.1
  exact ⟨st, sp, sl, e9, j_wake i2 (hx.sl r1.1) (fun G1 t1 t2 => ⟨rfl, hK G1 t1 ((q_NR.of r1).trans t2)⟩)⟩
theorem j_join (h : q_nI N G u c mk hd sp) (hx : q_ob N G x 10) (hy : q_ob N G y 10) (hK : ∀ G1, q_nI N G1 u c mk hd sp → q_NR N G N G1 → K (.inl none) N G1 0 0) : cT 4 sM_96 0 [(0, .ref 9), (1, .ref x), (2, .ref y)] [] N G K := by
  have h64 := h.1.2.1.1
  obtain ⟨a1, a2, a3, a4, f, b1, -⟩ := h.1.1.nd hx
  obtain ⟨v1, v2, v3, v4, f', w1, -⟩ := h.1.1.nd hy
  have J1 := j_written (K := K) h hx hy b1 hK
  have J2 := j_written (K := K) h hy hx w1 hK
  have h9 : 9 < N := by omega
  exact k_96_0 ⟨hx.1, hx.2.1, a1, a2, a3, a4, b1, fun _ => ⟨fun _ => ⟨hy.1, hy.2.1, v1, v2, v3, v4, w1, h9, J2⟩, fun _ => ⟨h9, J1⟩⟩, fun _ => ⟨hy.1, hy.2.1, v1, v2, v3, v4, w1, fun _ => ⟨fun _ => ⟨h9, J2⟩, fun _ => ⟨h9, J1⟩⟩, fun _ => ⟨fun _ => ⟨h9, J2⟩, fun _ => ⟨h9, J1⟩⟩⟩⟩
theorem j_same23 {y1 y2 : Nat} : ∀ (k : Nat) (p4 p5 : Int32) (G : Nat → sx_C), q_nI N G u c mk hd sp → (p4.toInt = 2 → q_W N G) → 0 ≤ p5.toInt → p5.toInt + (k : Int) = 60 → (∀ (v : Int32) G1, q_nI N G1 u c mk hd sp → q_NR N G N G1 → K (.inl (some (.int v))) N G1 0 0) → cT 5 sM_93 23 [(0, .ref 9), (1, .ref y1), (2, .ref y2), (3, .ref 13), (4, .int p4), (5, .int p5)] [] N G K := by
  intro k
  induction k with
  | zero =>
    intro p4 p5 G h hw h0 hk hK
    exact k_93_23 ⟨fun _ => hK p4 G h q_NR.rfl', fun q => by omega⟩
  | succ k ih =>
    intro p4 p5 G h hw h0 hk hK
    have h64 := h.1.2.1.1
    refine k_93_23 ⟨fun q => by omega, fun _ => ⟨fun _ => hK p4 G h q_NR.rfl', fun h2 => ?_⟩⟩
    obtain ⟨op, lk, l, r, e, ol, or⟩ := hw h2
    obtain ⟨st, sl, e9⟩ := h.2.1
    refine ⟨by omega, op, lk, some l, some r, e, fun q => (by cases q), fun x4 ex => ⟨fun q => (by cases q), fun x14 ex2 => ⟨by omega, st, sp, sl, e9, ?_⟩⟩⟩
    cases ex
    cases ex2
    refine j_join h ol or (fun G1 t1 t2 => ⟨rfl, ?_⟩)
    have h641 := t1.1.2.1.1
    obtain ⟨op1, lk1, l1, r1, e1, -, -, g2, g3, -⟩ := t1.1.2.2.1
    refine ⟨by omega, op1, lk1, l1, r1, e1, ?_⟩
    refine c_next (60 - lk1.toInt).toNat G1 op1 lk1 l1 r1 t1.1 e1 (by omega) (fun v G2 d1 d2 d3 => ⟨v, rfl, ?_⟩)
    have i2 := t1.ur d1 d2
    have R := t2.trans (q_NR.of d2)
    exact (ih v (p5 + 1) G2 i2 d3 (by rw [i32_succ h0 (by omega)]; omega) (by rw [i32_succ h0 (by omega)]; omega) (fun v2 G3 s1 s2 => hK v2 G3 s1 (R.trans s2))).z
set_option maxHeartbeats 1000000 in
theorem j_same {y1 y2 : Nat} (h : q_nI N G u c mk hd sp) (h1 : q_ob N G y1 10) (h2 : q_ob N G y2 10) (hK : ∀ (v : Int32) G1, q_nI N G1 u c mk hd sp → q_NR N G N G1 → K (.inl (some (.int v))) N G1 0 0) : cT 5 sM_93 0 [(0, .ref 9), (1, .ref y1), (2, .ref y2)] [] N G K := by
  have h64 := h.1.2.1.1
  obtain ⟨st, sl, e9⟩ := h.2.1
  obtain ⟨mt, fd, e10, -⟩ := h.1.2.2.2.1
  obtain ⟨op', lk', l', r', e', -⟩ := h.1.2.2.1
  obtain ⟨f7, e7⟩ := h.1.2.1.a 14 6 121 rfl
  obtain ⟨f14, e14⟩ := h.1.2.1.a 15 6 121 rfl
  obtain ⟨a1, a2, a3, a4, -, b1, -⟩ := h.1.1.nd h1
  obtain ⟨v1, v2, v3, v4, -, w1, -⟩ := h.1.1.nd h2
  have n1 := h.1.2.1.ne h1 13 5 rfl (by decide)
  have n2 := h.1.2.1.ne h2 13 5 rfl (by decide)
  have n4 : y2 ≠ 14 := fun q => by
    rw [q, e7] at w1
    exact oa_ne w1.symm
  obtain ⟨G1, eG, j1, j2, j3⟩ := c_beg h.1 h1 h2 ⟨l', r', e'⟩ e7 e14
  refine k_93_0 ⟨by omega, st, sp, sl, e9, by omega, mt, fd, e10, by omega, op', lk', l', r', e', by omega, f7, (va_ne (by decide)).trans e7, Int.le_refl 0, (by decide), h1.1, h1.2.1, a1, a2, a3, a4, (va_ne n1).trans b1, by omega, f14, (va_ne (by decide)).trans ((va_ne (by decide)).trans e14), Int.le_refl 0, (by decide), h2.1, h2.2.1, v1, v2, v3, v4, (va_ne n4).trans ((va_ne n2).trans w1), ?_⟩
  show cT 2 sM_77 0 [(0, .ref 13)] [] N (va_up (va_up (va_up (va_up G 13 (oC 5 [.ref 14, .ref 15, .int op', .int lk', .ref y1, .ref y2])) 14 (aC 6 121 (va_up f7 0 (some y1)))) 15 (aC 6 121 (va_up f14 0 (some y2)))) 13 (oC 5 [.ref 14, .ref 15, .int 1, .int 0, .ref y1, .ref y2])) _
  rw [← eG]
  refine c_next 60 G1 1 0 (some y1) (some y2) j1 j3 rfl (fun v G2 t1 t2 t3 => ⟨v, rfl, ?_⟩)
  have R := q_NR.of (j2.trans t2)
  exact (j_same23 60 v 0 G2 (h.ur t1 (j2.trans t2)) t3 (by decide) rfl (fun v2 G3 s1 s2 => hK v2 G3 s1 (R.trans s2))).z
set_option maxHeartbeats 2000000 in
theorem j_reckon (h : q_nI N G u c mk hd sp) (hu : u + 1 ≤ 20000) (hx : q_og N G (some x)) (hsg : ∀ (sg : Int32) (r : List Value), G x = oC 11 (.int sg :: r) → sg.toInt ≠ 99 ∧ sg.toInt ≠ 61) (hK : ∀ (v : Int32) N1 G1 kc ks u1 c1, q_nI N1 G1 u1 c1 mk hd sp → q_NR N G N1 G1 → u ≤ u1 → u1 ≤ u + 1 → kc + c ≤ c1 → ks + 8 * c ≤ 8 * c1 → K (.inl (some (.int v))) N1 G1 kc ks) : cT 9 sM_99 0 [(0, .ref 9), (1, .ref x)] [] N G K := by
  have h64 := h.1.2.1.1
  have ox := hx.ob
  obtain ⟨sg, l, o1, o2, o3, w, f, e, g1, g2, g3, g4, g5, g6, g7, g8, g9⟩ := h.1.1.go ox
  have hs0 := q_og.sg (l := 0) hx e
  obtain ⟨s1, s2⟩ := hsg sg _ e
  obtain ⟨n1, n2⟩ := g8 hs0
  obtain ⟨n3, n4⟩ := n2 s1
  have n5 := n4 s2
  obtain ⟨x1, rfl⟩ : ∃ x, o1 = some x := by
    cases o1 with
    | none => exact absurd rfl n1
    | some x => exact ⟨x, rfl⟩
  obtain ⟨x2, rfl⟩ : ∃ x, o2 = some x := by
    cases o2 with
    | none => exact absurd rfl n3
    | some x => exact ⟨x, rfl⟩
  obtain ⟨x3, rfl⟩ : ∃ x, o3 = some x := by
    cases o3 with
    | none => exact absurd rfl n5
    | some x => exact ⟨x, rfl⟩
  have hx1 := g5 x1 rfl
  have hx2 := g6 x2 rfl
  have hx3 := g7 x3 rfl
  obtain ⟨a1, a2, a3, a4, -, b1, -⟩ := h.1.1.nd hx2
  obtain ⟨v1, v2, v3, v4, -, w1, -⟩ := h.1.1.nd hx3
  obtain ⟨st, sl, e9⟩ := h.2.1
  obtain ⟨mt, fd, e10, -⟩ := h.1.2.2.2.1
  obtain ⟨us, vr, sz, mc, al, nl, sl', fl, l1, -⟩ := h.1.2.2.2.2
  refine k_99_0 ⟨ox.1, ox.2.1, sg, l, some x1, some x2, some x3, w, e, fun q => (by cases q), fun y ey => ?_⟩
  cases ey
  refine ⟨hx2.1, hx2.2.1, a1, a2, a3, a4, b1, c_at h.1.1 hx2 (fun z hz => ⟨rfl, rfl, rfl, rfl, some z, rfl, fun q => (by cases q), fun y ey => ?_⟩)⟩
  cases ey
  refine ⟨hx3.1, hx3.2.1, v1, v2, v3, v4, w1, c_at h.1.1 hx3 (fun t ht => ⟨rfl, rfl, rfl, rfl, some t, rfl, fun q => (by cases q), fun y ey => ?_⟩)⟩
  cases ey
  obtain ⟨z1, z2, z3, z4, -, z5, -⟩ := h.1.1.nd hz
  obtain ⟨t1, t2, t3, t4, -, t5, -⟩ := h.1.1.nd ht
  have aw : ∀ y, q_ob N G y 10 → cT 2 sM_89 0 [(0, .ref x), (1, .ref y)] [] N G (fun r N1 G1 kc ks => r = .inl none ∧ K (.inl (some (.int 2))) N1 G1 kc ks) := fun y hy => j_await h hx hy (fun G1 d1 d2 => ⟨rfl, hK 2 N G1 0 0 u c d1 d2 (by omega) (by omega) (by omega) (by omega)⟩)
  refine ⟨hz.1, hz.2.1, z1, z2, z3, z4, z5, fun hz0 => ⟨fun q => absurd hz0 q, fun _ => aw z hz⟩, fun hz0 => ⟨fun q => (by cases q), fun y ey => ?_⟩⟩
  cases ey
  refine ⟨ht.1, ht.2.1, t1, t2, t3, t4, t5, fun ht0 => ⟨fun _ => hK 1 N G 0 0 u c h q_NR.rfl' (by omega) (by omega) (by omega) (by omega), fun _ => ⟨fun _ => ⟨fun _ => ⟨fun _ => ?_, fun _ => ?_⟩, fun _ => ?_⟩, fun _ => hK 1 N G 0 0 u c h q_NR.rfl' (by omega) (by omega) (by omega) (by omega)⟩⟩, fun ht0 => ⟨fun _ => aw t ht, fun q => absurd q hz0⟩⟩
  all_goals
    refine ⟨by omega, st, sp, sl, e9, by omega, mt, fd, e10, by omega, us, vr, l1, c_make h.1 hu (fun _ z => absurd rfl z) (fun y N1 G1 kc ks c1 d1 d2 d3 d4 d5 => ⟨some y, rfl, fun q => (by cases q), fun y' ey' => ⟨fun q => (by cases q), fun y'' ey'' => ?_⟩⟩)⟩
    cases ey'
    cases ey''
    have i1 := h.ur d1 d2
    have r1 := q_NR.of d2
    have h641 := d1.2.1.1
    obtain ⟨st1, sl1, e91⟩ := i1.2.1
    exact ⟨by omega, st1, sp, sl1, e91, j_same i1 (hx1.sl d2.1) d3 (fun v G2 m1 m2 => ⟨v, rfl, hK v N1 G2 (kc + 0) (ks + 0) (u + 1) c1 m1 (r1.trans m2) (by omega) (by omega) (by omega) (by omega)⟩)⟩
set_option maxHeartbeats 1000000 in
theorem j_settle {p2 : Int32} (h : q_nI N G u c mk (hd + 1) sp) (hx : q_og N G (some x)) (hK : ∀ G1, q_nI N G1 u c mk hd sp → q_NR N G N G1 → K (.inl none) N G1 0 0) : cT 2 sM_92 0 [(0, .ref 9), (1, .ref x), (2, .int p2)] [] N G K := by
  have h64 := h.1.2.1.1
  have ox := hx.ob
  obtain ⟨sg, l, o1, o2, o3, w, f, e, -⟩ := h.1.1.go ox
  obtain ⟨st, sl, e9⟩ := h.2.1
  obtain ⟨s8, f8, p8, a8, b8, -⟩ := h.1.1.rw (h.1.2.1.row (x := 18) (Or.inl rfl))
  obtain ⟨s0, f0, p0, a0, b0, -⟩ := h.1.1.rw (h.1.2.1.row (x := 20) (Or.inr (Or.inl rfl)))
  obtain ⟨x1, x2, x3, x4⟩ := h.app (x := 18) (Or.inl rfl) p8 b8 hx
  obtain ⟨y1, y2, y3, y4⟩ := h.app (x := 20) (Or.inr (Or.inl rfl)) p0 b0 hx
  obtain ⟨m1, m2⟩ := y3.n9 (sp := sp) (st := 3) (sl := sl)
  obtain ⟨m3, m4⟩ := y3.n9 (sp := sp) (st := 2) (sl := sl)
  obtain ⟨m5, m6⟩ := x3.n9 (sp := sp) (st := st) (sl := sl + 1)
  exact k_92_0 ⟨fun _ => ⟨by omega, st, sp, sl, e9, by omega, s0, p0, by omega, f0, b0, fun q => by omega, fun _ => ⟨y2, y1, ox.1, ox.2.1, sg, l, o1, o2, o3, w, e, fun _ => ⟨fun _ => hK _ y3 y4, fun _ => hK _ m1 (y4.trans m2)⟩, fun _ => hK _ m3 (y4.trans m4)⟩⟩, fun _ => ⟨by omega, st, sp, sl, e9, by omega, s8, p8, by omega, f8, b8, fun q => by omega, fun _ => ⟨x2, x1, ox.1, ox.2.1, sg, l, o1, o2, o3, w, e, hK _ m5 (x4.trans m6)⟩⟩⟩
theorem j_first2 (h : q_nI N G u c mk hd sp) (hK0 : K (.inl (some .null)) N G 0 0) (hK : ∀ G1 y, q_nI N G1 u c mk (hd + 1) sp → q_NR N G N G1 → q_og N G1 (some y) → K (.inl (some (.ref y))) N G1 0 0) : ∀ (k : Nat) (p1 : Int32), p1.toInt + 1 = (k : Int) → p1.toInt < 4 → cT 3 sM_70 2 [(0, .ref 9), (1, .int p1)] [] N G K := by
  have h64 := h.1.2.1.1
  obtain ⟨st, sl, e9⟩ := h.2.1
  intro k
  induction k with
  | zero =>
    intro p1 hk h4
    exact k_70_2 ⟨fun _ => hK0, fun q => by omega⟩
  | succ k ih =>
    intro p1 hk h4
    obtain ⟨f17, x54, q1, q2, q3⟩ := h.2.rowN (L := p1) (by omega) h4
    have hb := q3.le
    obtain ⟨s, fr, u1, u2, u3, u4, u5, -⟩ := h.1.1.rw (h.1.2.1.row q3)
    obtain ⟨q, eq, hq⟩ := i32_mm (x := p1) (by omega) (by omega)
    refine k_70_2 ⟨fun q => by omega, fun _ => ?_⟩
    rw [eq]
    exact ⟨by omega, st, sp, sl, e9, by omega, f17, q1, by omega, h4, x54, q2, by omega, by omega, s, u1, fun _ => ih q (by omega) (by omega), fun hs => ⟨by omega, h4, x54, q2, by omega, by omega, s, u1, j_take h q3 u1 (by decide) hs (fun G1 y f k1 k2 t1 t2 t3 t4 t5 => ⟨some y, rfl, hK G1 y t1 t2 t5⟩)⟩⟩
theorem j_first (h : q_nI N G u c mk hd sp) (hK0 : K (.inl (some .null)) N G 0 0) (hK : ∀ G1 y, q_nI N G1 u c mk (hd + 1) sp → q_NR N G N G1 → q_og N G1 (some y) → K (.inl (some (.ref y))) N G1 0 0) : cT 3 sM_70 0 [(0, .ref 9)] [] N G K := k_70_0 (j_first2 h hK0 hK 4 3 rfl (by decide))
end QW
