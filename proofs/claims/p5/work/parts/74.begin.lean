/-! Network.dismiss, begin -/
section QD
variable {F : Nat → Prop} {N N1 x y u c mk hd s : Nat} {G G1 : Nat → sx_C} {sp : Int32} {K : Option Value ⊕ Nat → Nat → (Nat → sx_C) → Nat → Nat → Prop}
theorem j_dismiss7 (hx : q_row x) (h20 : x ≠ 20) : ∀ (k : Nat) (p2 s : Int32) (G : Nat → sx_C), q_nI N G u c mk hd sp → G x = oC 6 [.ref (x + 1), .int s] → p2.toInt + 1 = (k : Int) → s.toInt = (k : Int) → (∀ G1, q_nI N G1 u c mk hd sp → q_NR N G N G1 → K (.inl none) N G1 0 0) → cT 3 sM_49 7 [(0, .ref 9), (1, .ref x), (2, .int p2)] [] N G K := by
  have hb := hx.le
  have hx1 : x + 1 ≠ 20 := by
    rcases hx with rfl | rfl | rfl | rfl | rfl | rfl <;> decide
  have hx2 : x ≠ 21 := by
    rcases hx with rfl | rfl | rfl | rfl | rfl | rfl <;> decide
  intro k
  induction k with
  | zero =>
    intro p2 s G h e hk hs hK
    exact k_49_7 ⟨fun _ => hK G h q_NR.rfl', fun q => by omega⟩
  | succ k ih =>
    intro p2 s G h e hk hs hK
    have h64 := h.1.2.1.1
    obtain ⟨st, sl, e9⟩ := h.2.1
    obtain ⟨s', f', e', -, -, c8, d8, -⟩ := h.1.1.rw (h.1.2.1.row hx)
    have es : s' = s := by
      have := (oC_inj (e'.symm.trans e)).2
      cases this
      rfl
    subst es
    obtain ⟨q, eq, hq⟩ := i32_mm (x := p2) (by omega) (by omega)
    obtain ⟨s1, es1, hs1⟩ := i32_m1 (x := s') (by omega) (by omega)
    refine k_49_7 ⟨fun q => by omega, fun _ => ?_⟩
    rw [eq]
    refine ⟨by omega, st, sp, sl, e9, by omega, by omega, s', e, ?_⟩
    refine j_take h hx e (by omega) (by omega) (fun G1 y f k1 k2 t1 t2 t3 t4 t5 => ⟨some y, rfl, fun z => (by cases z), fun x5 ex => ?_⟩)
    cases ex
    have oy := t5.ob
    obtain ⟨sg, l, o1, o2, o3, w, fw, e5, -⟩ := t1.1.1.go oy
    obtain ⟨s0, f0, p0, a0, b0, -⟩ := t1.1.1.rw (t1.1.2.1.row (x := 20) (Or.inr (Or.inl rfl)))
    obtain ⟨y1, y2, y3, y4⟩ := t1.app (x := 20) (Or.inr (Or.inl rfl)) p0 b0 t5
    refine ⟨by omega, s0, p0, by omega, f0, b0, fun z => by omega, fun _ => ⟨y2, y1, oy.1, oy.2.1, sg, l, o1, o2, o3, w, e5, ?_⟩⟩
    have ex1 : (va_up (va_up G1 (20 + 1) (aC 7 61 (va_up f0 s0.toNatClampNeg (some y)))) 20 (oC 6 [.ref (20 + 1), .int (s0 + 1)])) x = oC 6 [.ref (x + 1), .int (s' - 1)] := (va_ne h20).trans ((va_ne hx2).trans t4)
    exact (ih q (s' - 1) _ y3 ex1 (by omega) (by rw [es1]; omega) (fun G2 d1 d2 => hK G2 d1 ((t2.trans y4).trans d2))).z
theorem j_dismiss (h : q_nI N G u c mk hd sp) (hx : q_row x) (h20 : x ≠ 20) (hK : ∀ G1, q_nI N G1 u c mk hd sp → q_NR N G N G1 → K (.inl none) N G1 0 0) : cT 3 sM_49 0 [(0, .ref 9), (1, .ref x)] [] N G K := by
  have h64 := h.1.2.1.1
  have hb := hx.le
  obtain ⟨s, f, e, -, -, c8, d8, -⟩ := h.1.1.rw (h.1.2.1.row hx)
  obtain ⟨s1, es1, hs1⟩ := i32_m1 (x := s) (by omega) (by omega)
  refine k_49_0 ⟨by omega, by omega, s, e, ?_⟩
  rw [es1]
  exact j_dismiss7 hx h20 s.toInt.toNat s1 s G h e (by omega) (by omega) hK
theorem q_nI.n22 {f : Nat → Option Nat} {k : Nat} {o : Option Nat} (h : q_nI N G u c mk hd sp) (e : G 22 = aC 6 26 f) (ho : q_oo N G 10 o) : q_nI N (va_up G 22 (aC 6 26 (va_up f k o))) u c mk hd sp ∧ q_NR N G N (va_up G 22 (aC 6 26 (va_up f k o))) := by
  have h64 := h.1.2.1.1
  have hle : q_le 22 (G 22) (aC 6 26 (va_up f k o)) := q_le.a4 e (Or.inr rfl)
  have hf := (h.1.1 22 (by decide) (by omega)).2.2.2.1 26 f e
  refine ⟨⟨h.1.up hle (fun s => q_ok.a6 (fun j => ?_)) (by decide) (by decide) (by decide) (by decide) (fun n1 f1 q => absurd (aC_inj (e.symm.trans q)).1 (by decide)), h.2.fr (va_ne (by decide)) (va_ne (by decide)) (fun p hp => va_ne ?_)⟩, q_NR.up hle (Or.inr (Or.inr (Or.inl (by decide)))) (by decide)⟩
  · by_cases q : j = k
    · rw [q, up_eq]
      exact ho.sl s
    · rw [va_ne q]
      exact (hf j).sl s
  · unfold q_row at hp
    omega
theorem j_begin95 {y1 : Nat} : ∀ (k : Nat) (p2 : Int32) (G : Nat → sx_C), q_nI N G u c mk hd sp → 0 ≤ p2.toInt → p2.toInt + (k : Int) = 26 → (∀ G1, q_nI N G1 u c mk hd sp → q_NR N G N G1 → K (.inl none) N G1 0 0) → cT 62 sM_48 95 [(0, .ref 9), (1, .ref y1), (2, .int p2)] [] N G K := by
  intro k
  induction k with
  | zero =>
    intro p2 G h h0 hk hK
    exact k_48_95 ⟨fun _ => hK G h q_NR.rfl', fun q => by omega⟩
  | succ k ih =>
    intro p2 G h h0 hk hK
    have h64 := h.1.2.1.1
    obtain ⟨st, sl, e9⟩ := h.2.1
    obtain ⟨mt, fd, e10, hm, -⟩ := h.1.2.2.2.1
    obtain ⟨f22, e22⟩ := h.1.2.1.a 22 6 26 rfl
    obtain ⟨f16, e16⟩ := h.1.2.1.a 16 6 26 rfl
    have e1 : (p2 + 1).toInt = p2.toInt + 1 := i32_succ h0 (by omega)
    refine k_48_95 ⟨fun q => by omega, fun _ => ⟨by omega, st, sp, sl, e9, by omega, mt, fd, e10, fun hb => ?_, fun hb => ?_⟩⟩
    · obtain ⟨i1, r1⟩ := h.n22 (k := p2.toNatClampNeg) (o := none) e22 q_oo.none
      exact ⟨by omega, f22, e22, h0, by omega, ih (p2 + 1) _ i1 (by omega) (by omega) (fun G1 d1 d2 => hK G1 d1 (r1.trans d2))⟩
    · have ev : p2.toInt = ((p2.toNatClampNeg : Nat) : Int) := by
        show p2.toInt = ((p2.toInt.toNat : Nat) : Int)
        omega
      obtain ⟨y, g1, g2⟩ := h.1.1.el (by decide) e16 (hm p2 p2.toNatClampNeg ev (by omega) hb)
      obtain ⟨a1, a2, a3, a4, -, b1, -⟩ := h.1.1.nd g2
      obtain ⟨i1, r1⟩ := h.n22 (k := p2.toNatClampNeg) (o := some y) e22 (q_oo.some g2)
      exact ⟨by omega, f16, e16, h0, by omega, y, g1, by omega, f22, e22, h0, by omega, g2.1, g2.2.1, a1, a2, a3, a4, b1, ih (p2 + 1) _ i1 (by omega) (by omega) (fun G1 d1 d2 => hK G1 d1 (r1.trans d2))⟩
set_option maxHeartbeats 1000000 in
theorem j_begin65 {g m : Nat} {a n : Nat} {sz mc : Int32} {f : Nat → Option Nat} {ws : Nat → Nat} (hd1 : hd ≤ 1) (g5 : 5 ≤ g) (fg : F g) (d2 : sz.toInt = (m : Int)) (d4 : F a) (d6 : m ≤ n) (hm : m ≤ 100) : ∀ (j i : Nat) (p4 : Int32) (N : Nat) (G : Nat → sx_C) (u c mk : Nat) (K : Option Value ⊕ Nat → Nat → (Nat → sx_C) → Nat → Nat → Prop), i + j = m → p4.toInt = (i : Int) → q_nI N G u c mk hd sp → (∀ q, F q → q < N ∧ ¬ q_V G q) → G g = oC 13 [.ref a, .int sz, .int mc] → G a = aC 4 n f → (∀ i, i < m → ∃ q, f i = some q ∧ q_It F N G true q (ws i)) → u + q_sm ws m ≤ 20000 + q_sm ws i → (∀ N1 G1 kc ks u1 c1 mk1, q_nI N1 G1 u1 c1 mk1 hd sp → q_NR N G N1 G1 → u ≤ u1 → u1 + q_sm ws i ≤ u + q_sm ws m → kc + c + 3 * mk ≤ c1 + 3 * mk1 → ks + 8 * c + 24 * mk ≤ 8 * c1 + 24 * mk1 → K (.inl none) N1 G1 kc ks) → cT 62 sM_48 65 [(0, .ref 9), (1, .ref g), (2, .int p4)] [] N G K := by
  intro j
  induction j with
  | zero =>
    intro i p4 N G u c mk K hij hp4 h hF d1 d5 d7 hu hK
    have hi : i = m := by omega
    subst hi
    exact k_48_65 ⟨g5, (hF g fg).1, a, sz, mc, d1, fun _ => j_begin95 26 0 G h (by decide) rfl (fun G1 t1 t2 => hK N G1 0 0 u c mk t1 t2 (by omega) (by omega) (by omega) (by omega)), fun q => by omega⟩
  | succ j ih =>
    intro i p4 N G u c mk K hij hp4 h hF d1 d5 d7 hu hK
    have h64 := h.1.2.1.1
    obtain ⟨st, sl, e9⟩ := h.2.1
    obtain ⟨q, q1, q2⟩ := d7 i (by omega)
    have q2' := q2
    obtain ⟨b1, b2, b3, sg, lv, t1, o2, o3, w1', w2', w3', b4, -⟩ := q2'
    have ec : p4.toNatClampNeg = i := i32_cl hp4
    have hsm : q_sm ws (i + 1) = q_sm ws i + ws i := rfl
    have hsm2 : q_sm ws (i + 1) ≤ q_sm ws m := q_sm_le (by omega)
    refine k_48_65 ⟨g5, (hF g fg).1, a, sz, mc, d1, fun q => by omega, fun _ => ⟨fun q => by omega, fun _ => ⟨fun _ => ⟨(hF a d4).1, n, f, d5, by omega, by omega, q, by rw [ec]; exact q1, b1, b2, sg, lv, t1, o2, o3, b4, by omega, st, sp, sl, e9, ?_⟩, fun q => by omega⟩⟩⟩
    refine j_put h hd1 hF q2 (by omega) (by decide) (by decide) (fun v N1 G1 kc ks u1 c1 mk1 t1 t2 t3 t4 t5 t6 => ⟨v, rfl, ?_⟩)
    obtain ⟨hE1, hF1⟩ := t2.fz hF
    refine ih (i + 1) (p4 + 1) N1 G1 u1 c1 mk1 _ (by omega) (by rw [i32_succ (by omega) (by omega), hp4]; omega) t1 hF1 ((hE1 g fg).trans d1) ((hE1 a d4).trans d5) (fun i hi => ?_) (by omega) (fun N2 G2 kc2 ks2 u2 c2 mk2 s1 s2 s3 s4 s5 s6 => hK N2 G2 (kc + kc2) (ks + ks2) u2 c2 mk2 s1 (t2.trans s2) (by omega) (by omega) (by omega) (by omega))
    obtain ⟨q, g1, g2⟩ := d7 i hi
    exact ⟨q, g1, g2.fr t2.1.1 (fun _ z => z) hE1⟩
set_option maxHeartbeats 1000000 in
theorem j_begin2 {g m w : Nat} (hm : m ≤ 48) (hw : w ≤ 48) : ∀ (k : Nat) (p2 : Int32) (G : Nat → sx_C), q_nI N G u c mk 0 sp → (∀ q, F q → q < N ∧ ¬ q_V G q) → q_Li F N G true g m w → 0 ≤ p2.toInt → p2.toInt + (k : Int) = 4 → (∀ N1 G1 kc ks u1 c1 mk1, q_rI N1 G1 u1 c1 mk1 → q_NR N G N1 G1 → kc + c + 3 * mk ≤ c1 + 3 * mk1 → ks + 8 * c + 24 * mk ≤ 8 * c1 + 24 * mk1 → K (.inl none) N1 G1 kc ks) → cT 62 sM_48 2 [(0, .ref 9), (1, .ref g), (2, .int p2)] [] N G K := by
  intro k
  induction k with
  | zero =>
    intro p2 G h hF hL h0 hk hK
    have h64 := h.1.2.1.1
    obtain ⟨st, sl, e9⟩ := h.2.1
    refine k_48_2 ⟨fun _ => ⟨by omega, st, sp, sl, e9, j_dismiss h (x := 18) (Or.inl rfl) (by decide) (fun G3 t1 t2 => ⟨rfl, ?_⟩)⟩, fun q => by omega⟩
    obtain ⟨st3, sl3, e93⟩ := t1.2.1
    obtain ⟨mt, fd, e10, -⟩ := t1.1.2.2.2.1
    obtain ⟨us, vr, sz, mc, al, nl, sl', fl, l1, -⟩ := t1.1.2.2.2.2
    refine ⟨by omega, st3, sp, sl3, e93, by omega, mt, fd, e10, by omega, us, vr, l1, ?_⟩
    obtain ⟨i1, r1⟩ := t1.1.e11 (u1 := 0) (us := 0) (vr := 0) rfl (fun sz' a' m' e' => by
      have := t1.1.2.2.2.2.lim e'
      omega)
    obtain ⟨i2, r2⟩ := i1.e10 (mt := 0) (fd := none) (fun w k hw hk hb => absurd (q_bit0 hw hk) hb) q_oo.none
    have n2 := t1.ur i2 (r1.trans r2)
    obtain ⟨i3, r3⟩ := n2.n9 (sp := 0) (st := 1) (sl := 0)
    have R := (t2.trans (q_NR.of (r1.trans r2))).trans r3
    obtain ⟨hE, hF1⟩ := R.fz hF
    have hL1 := hL.fr R.1.1 (fun _ z => z) hE
    obtain ⟨g5, gN, fg, a, n, sz2, mc2, f, ws, d1, d2, d3, d4, d5, d6, d7, d8⟩ := hL1
    refine (j_begin65 (m := m) (by omega) g5 fg d2 d4 d6 (by omega) m 0 0 N _ 0 c mk K (by omega) rfl i3 hF1 d1 d5 d7 (by show _ + _ ≤ 20000 + 0; omega) (fun N1 G1 kc ks u1 c1 mk1 s1 s2 s3 s4 s5 s6 => ?_)).z
    have s4' : u1 + 0 ≤ 0 + q_sm ws m := s4
    exact hK N1 G1 kc ks u1 c1 mk1 ⟨0, s1, by decide, by decide, by show (u1 : Int) ≤ 49 * (0 + 1); omega⟩ (R.trans s2) s5 s6
  | succ k ih =>
    intro p2 G h hF hL h0 hk hK
    have h64 := h.1.2.1.1
    obtain ⟨st, sl, e9⟩ := h.2.1
    obtain ⟨f17, x, q1, q2, q3⟩ := h.2.rowN (L := p2) h0 (by omega)
    obtain ⟨f17', e17', hf17⟩ := h.2.2.1
    have x20 : x ≠ 20 := by
      obtain ⟨-, -, rfl⟩ := aC_inj (q1.symm.trans e17')
      have hl : p2.toNatClampNeg < 4 := by
        show p2.toInt.toNat < 4
        omega
      rw [hf17 _ hl] at q2
      cases q2
      omega
    refine k_48_2 ⟨fun q => by omega, fun _ => ⟨by omega, st, sp, sl, e9, by omega, f17, q1, h0, by omega, x, q2, j_dismiss h q3 x20 (fun G3 t1 t2 => ⟨rfl, ?_⟩)⟩⟩
    obtain ⟨hE, hF1⟩ := t2.fz hF
    exact (ih (p2 + 1) G3 t1 hF1 (hL.fr t2.1.1 (fun _ z => z) hE) (by rw [i32_succ h0 (by omega)]; omega) (by rw [i32_succ h0 (by omega)]; omega) (fun N1 G1 kc ks u1 c1 mk1 s1 s2 s3 s4 => hK N1 G1 kc ks u1 c1 mk1 s1 (t2.trans s2) s3 s4)).z
theorem j_begin {g m w : Nat} (h : q_rI N G u c mk) (hF : ∀ q, F q → q < N ∧ ¬ q_V G q) (hL : q_Li F N G true g m w) (hm : m ≤ 48) (hw : w ≤ 48) (hK : ∀ N1 G1 kc ks u1 c1 mk1, q_rI N1 G1 u1 c1 mk1 → q_NR N G N1 G1 → kc + c + 3 * mk ≤ c1 + 3 * mk1 → ks + 8 * c + 24 * mk ≤ 8 * c1 + 24 * mk1 → K (.inl none) N1 G1 kc ks) : cT 62 sM_48 0 [(0, .ref 9), (1, .ref g)] [] N G K := by
  obtain ⟨sp, h, -⟩ := h
  exact k_48_0 (j_begin2 hm hw 4 0 G h hF hL (by decide) rfl hK)
end QD
