/-! Network.put, putAll -/
section QJ
variable {F : Nat → Prop} {N N1 x y u c mk hd : Nat} {G G1 : Nat → sx_C} {sp : Int32} {K : Option Value ⊕ Nat → Nat → (Nat → sx_C) → Nat → Nat → Prop}
theorem q_nS.rowN (h : q_nS G mk hd sp) {L : Int32} (h0 : 0 ≤ L.toInt) (h1 : L.toInt < 4) : ∃ f x, G 17 = aC 5 4 f ∧ f L.toNatClampNeg = some x ∧ q_row x := by
  obtain ⟨f, e, hf⟩ := h.2.1
  have hl : L.toNatClampNeg < 4 := by
    show L.toInt.toNat < 4
    omega
  refine ⟨f, _, e, hf _ hl, ?_⟩
  generalize L.toNatClampNeg = k at hl
  unfold q_row
  omega
theorem q_nI.new (h : q_nI N G u c mk hd sp) (hN : N ≤ N1) (e : ∀ p, p < N → G1 p = G p) (hc : ∀ p, N ≤ p → p < N1 → q_ok N1 G1 p (G1 p)) : q_nI N1 G1 u c mk hd sp ∧ q_NR N G N1 G1 := by
  have h64 := h.1.2.1.1
  exact ⟨⟨h.1.new hN e hc, h.2.fr (e 9 (by omega)) (e 17 (by omega)) (fun p hp => e p (by have := hp.le; omega))⟩, q_NR.of (q_UR.new hN (by omega) e)⟩
def q_o3 (N : Nat) (G : Nat → sx_C) (sg : Int32) (o1 o2 o3 : Option Nat) : Prop := q_oo N G 10 o1 ∧ q_oo N G 10 o2 ∧ q_oo N G 10 o3 ∧ o1 ≠ none ∧ (sg.toInt ≠ 99 → o2 ≠ none ∧ (sg.toInt ≠ 61 → o3 ≠ none))
theorem q_o3.sl {sg : Int32} {o1 o2 o3 : Option Nat} (h : q_o3 N G sg o1 o2 o3) (s : q_sl N G N1 G1) : q_o3 N1 G1 sg o1 o2 o3 := ⟨h.1.sl s, h.2.1.sl s, h.2.2.1.sl s, h.2.2.2⟩
set_option maxHeartbeats 1000000 in
theorem j_putL {L sg : Int32} {o1 o2 o3 : Option Nat} (h : q_nI N G u c mk (hd + 1) sp) (h0 : 0 ≤ L.toInt) (h4 : L.toInt < 4) (hsg : sg.toInt ≠ 0) (hx : q_ob N G x 11) (ho : q_o3 N G sg o1 o2 o3) (hK : ∀ G1, q_nI N G1 u c mk hd sp → q_NR N G N G1 → K (.inl (some (.int 0))) N G1 0 0) : 5 ≤ x ∧ x < N ∧ ∃ (i38_0 : Int32) (i38_1 : Int32) (o38_2 : Option Nat) (o38_3 : Option Nat) (o38_4 : Option Nat) (i38_6 : Int32), G x = oC 11 [.int i38_0, .int i38_1, va_rf o38_2, va_rf o38_3, va_rf o38_4, .ref (x + 1), .int i38_6] ∧ 9 < N ∧ ∃ (i51_5 : Int32) (i51_6 : Int32) (i51_7 : Int32), (va_up G x (oC 11 [.int sg, .int L, va_rf o1, va_rf o2, va_rf o3, .ref (x + 1), .int 0])) 9 = oC 2 [.ref 10, .ref 17, .ref 18, .ref 20, .ref 22, .int i51_5, .int i51_6, .int i51_7] ∧ 17 < N ∧ ∃ (f52 : Nat → Option Nat), (va_up G x (oC 11 [.int sg, .int L, va_rf o1, va_rf o2, va_rf o3, .ref (x + 1), .int 0])) 17 = aC 5 4 f52 ∧ 0 ≤ L.toInt ∧ L.toInt < (4 : Nat) ∧ ∃ x54, f52 L.toNatClampNeg = some x54 ∧ 5 ≤ x54 ∧ x54 < N ∧ ∃ (i55_1 : Int32), (va_up G x (oC 11 [.int sg, .int L, va_rf o1, va_rf o2, va_rf o3, .ref (x + 1), .int 0])) x54 = oC 6 [.ref (x54 + 1), .int i55_1] ∧ 5 ≤ x54 + 1 ∧ x54 + 1 < N ∧ ∃ (f56 : Nat → Option Nat), (va_up G x (oC 11 [.int sg, .int L, va_rf o1, va_rf o2, va_rf o3, .ref (x + 1), .int 0])) (x54 + 1) = aC 7 61 f56 ∧ ((61 ≤ i55_1.toInt → K (.inl (some (.int 0))) (N) (va_up G x (oC 11 [.int sg, .int L, va_rf o1, va_rf o2, va_rf o3, .ref (x + 1), .int 0])) (0) (0)) ∧ (i55_1.toInt < 61 → 0 ≤ i55_1.toInt ∧ i55_1.toInt < (61 : Nat) ∧ K (.inl (some (.int 0))) (N) (va_up (va_up (va_up G x (oC 11 [.int sg, .int L, va_rf o1, va_rf o2, va_rf o3, .ref (x + 1), .int 0])) (x54 + 1) (aC 7 61 (va_up f56 i55_1.toNatClampNeg (some x)))) x54 (oC 6 [.ref (x54 + 1), .int (i55_1 + 1)])) (0) (0))) := by
  obtain ⟨sg0, l0, b1, b2, b3, w, f, e, g1, g2, -⟩ := h.1.1.go hx
  obtain ⟨i1, r1⟩ := h.up (x := x) (d := oC 11 [.int sg, .int L, va_rf o1, va_rf o2, va_rf o3, .ref (x + 1), .int 0]) (q_le.g e (fun _ => q_gl.of hsg)) (fun s => q_ok.go ⟨sg, L, o1, o2, o3, 0, rfl, g1, s.ar g1 ⟨f, g2⟩, ⟨by decide, by decide⟩, ⟨h0, h4⟩, ho.1.sl s, ho.2.1.sl s, ho.2.2.1.sl s, fun _ => ho.2.2.2⟩) (Or.inl ⟨_, e⟩)
  have hy : q_og N (va_up G x (oC 11 [.int sg, .int L, va_rf o1, va_rf o2, va_rf o3, .ref (x + 1), .int 0])) (some x) := fun z ez => by
    cases ez
    exact ⟨hx.1, hx.2.1, _, up_eq, q_gl.of hsg⟩
  have h64 := h.1.2.1.1
  obtain ⟨st, sl, e9⟩ := i1.2.1
  obtain ⟨f17, x54, q1, q2, q3⟩ := i1.2.rowN h0 h4
  have hb := q3.le
  obtain ⟨s, fr, p1, p2, p3, -⟩ := i1.1.1.rw (i1.1.2.1.row q3)
  obtain ⟨a1, a2, a3, a4⟩ := i1.app q3 p1 p3 hy
  exact ⟨hx.1, hx.2.1, sg0, l0, b1, b2, b3, w, e, by omega, st, sp, sl, e9, by omega, f17, q1, h0, h4, x54, q2, by omega, by omega, s, p1, by omega, p2, fr, p3, fun q => by omega, fun _ => ⟨a2, a1, hK _ a3 (r1.trans a4)⟩⟩
theorem j_put117 {p t : Nat} {p2 sg lv : Int32} {b2 b3 o1 o2 o3 : Option Nat} (h : q_nI N G u c mk (hd + 1) sp) (h5 : 5 ≤ p) (hpN : p < N) (e : G p = oC 9 [.int sg, .int lv, .ref t, va_rf b2, va_rf b3]) (hsg : sg.toInt ≠ 0) (hlv : lv.toInt = -1 ∨ (0 ≤ lv.toInt ∧ lv.toInt < 4)) (h0 : 0 ≤ p2.toInt) (h4 : p2.toInt < 4) (hx : q_ob N G x 11) (ho : q_o3 N G sg o1 o2 o3) (hK : ∀ G1, q_nI N G1 u c mk hd sp → q_NR N G N G1 → K (.inl (some (.int 0))) N G1 0 0) : cT 61 sM_55 117 [(0, .ref 9), (1, .ref p), (2, .int p2), (3, va_rf o1), (4, va_rf o2), (5, va_rf o3), (6, va_rf (some x))] [] N G K := by
  refine k_55_117 ⟨h5, hpN, sg, lv, t, b2, b3, e, fun hne => ⟨fun q => (by cases q), fun x37 ex => ?_⟩, fun heq => ⟨fun q => (by cases q), fun x37 ex => ?_⟩⟩
  · cases ex
    exact j_putL h (by omega) (by omega) hsg hx ho hK
  · cases ex
    exact j_putL h h0 h4 hsg hx ho hK
set_option maxHeartbeats 1000000 in
theorem j_put60 {p t : Nat} {p2 sg lv : Int32} {b2 b3 o1 o2 o3 : Option Nat} (h : q_nI N G u c mk hd sp) (hd1 : hd ≤ 1) (h5 : 5 ≤ p) (hpN : p < N) (hpV : ¬ q_V G p) (e : G p = oC 9 [.int sg, .int lv, .ref t, va_rf b2, va_rf b3]) (hsg : sg.toInt ≠ 0) (hlv : lv.toInt = -1 ∨ (0 ≤ lv.toInt ∧ lv.toInt < 4)) (h0 : 0 ≤ p2.toInt) (h4 : p2.toInt < 4) (ho : q_o3 N G sg o1 o2 o3) (hK : ∀ (v : Int32) N1 G1 kc ks mk1, q_nI N1 G1 u c mk1 hd sp → q_NR N G N1 G1 → kc + 3 * mk ≤ 3 * mk1 → ks + 24 * mk ≤ 24 * mk1 → K (.inl (some (.int v))) N1 G1 kc ks) : cT 61 sM_55 60 [(0, .ref 9), (1, .ref p), (2, .int p2), (3, va_rf o1), (4, va_rf o2), (5, va_rf o3)] [] N G K := by
  have h64 := h.1.2.1.1
  obtain ⟨st, sl, e9⟩ := h.2.1
  obtain ⟨s8, f8, p8, a8, b8, c8, d8, -⟩ := h.1.1.rw (h.1.2.1.row (x := 18) (Or.inl rfl))
  obtain ⟨s0, f0, p0, a0, b0, c0, d0, -⟩ := h.1.1.rw (h.1.2.1.row (x := 20) (Or.inr (Or.inl rfl)))
  have hpos := h.1.pos6
  have hsum := h.2.2.2.1
  unfold q_sum at hsum
  have z8 := q_rz.eq p8
  have z0 := q_rz.eq p0
  have hmk := h.2.2.2.2
  refine k_55_60 ⟨by omega, st, sp, sl, e9, j_gir (r := 0) h (fun v hv => ⟨rfl, rfl, rfl, rfl, v, rfl, by omega, s8, p8, fun hlt => ⟨by omega, s0, p0, fun hz => ⟨by omega, ?_⟩, fun hz => ?_⟩, fun _ => hK 3 N G 0 0 mk h q_NR.rfl' (by omega) (by omega)⟩)⟩
  · have ev : (v + s8).toInt = v.toInt + s8.toInt := i32_add rfl (by omega) (by omega)
    have hN : ∀ q, q < N → (va_up (va_up (va_up G N (oC 11 [.int 0, .int 0, .null, .null, .null, .null, .int 0])) (N + 1) (aC 6 12 (fun _ => none))) N (oC 11 [.int 0, .int 0, .null, .null, .null, .ref (N + 1), .int 0])) q = G q := fun q hq => by
      rw [va_ne (by omega), va_ne (by omega), va_ne (by omega)]
    have eN1 : (va_up (va_up (va_up G N (oC 11 [.int 0, .int 0, .null, .null, .null, .null, .int 0])) (N + 1) (aC 6 12 (fun _ => none))) N (oC 11 [.int 0, .int 0, .null, .null, .null, .ref (N + 1), .int 0])) (N + 1) = aC 6 12 (fun _ => none) := by
      rw [va_ne (by omega), up_eq]
    have eN : (va_up (va_up (va_up G N (oC 11 [.int 0, .int 0, .null, .null, .null, .null, .int 0])) (N + 1) (aC 6 12 (fun _ => none))) N (oC 11 [.int 0, .int 0, .null, .null, .null, .ref (N + 1), .int 0])) N = oC 11 [.int 0, .int 0, .null, .null, .null, .ref (N + 1), .int 0] := up_eq
    generalize (va_up (va_up (va_up G N (oC 11 [.int 0, .int 0, .null, .null, .null, .null, .int 0])) (N + 1) (aC 6 12 (fun _ => none))) N (oC 11 [.int 0, .int 0, .null, .null, .null, .ref (N + 1), .int 0])) = G0 at hN eN1 eN ⊢
    obtain ⟨i1, r1⟩ := h.new (N1 := N + 1 + 1) (by omega) hN (fun q h1 h2 => by
      by_cases qe : q = N
      · rw [qe, eN]
        exact q_ok.go ⟨0, 0, none, none, none, 0, rfl, by omega, ⟨_, eN1⟩, ⟨by decide, by decide⟩, ⟨by decide, by decide⟩, q_oo.none, q_oo.none, q_oo.none, fun z => absurd rfl z⟩
      · rw [show q = N + 1 by omega, eN1]
        exact q_ok.a6 (fun _ => q_oo.none))
    have i2 : q_nI (N + 1 + 1) G0 u c (mk + 1) (hd + 1) sp := ⟨i1.1, i1.2.1, i1.2.2.1, by have := i1.2.2.2.1; omega, by omega⟩
    refine j_put117 i2 h5 (by omega) ((hN p hpN).trans e) hsg hlv h0 h4 ⟨by omega, by omega, _, eN⟩ (ho.sl r1.1) (fun G1 t1 t2 => ?_)
    exact hK 0 _ G1 (0 + 2) (0 + 19) (mk + 1) t1 (r1.trans t2) (by omega) (by omega)
  · obtain ⟨s1, es1, hs1⟩ := i32_m1 (x := s0) (by omega) (by omega)
    refine j_take h (x := 20) (Or.inr (Or.inl rfl)) p0 (by rw [es1]; omega) (by rw [es1]; omega) (fun G1 y f k1 k2 t1 t2 t3 t4 t5 => ⟨some y, rfl, ?_⟩)
    have eG1 := t2.2.1 p hpN hpV
    refine (j_put117 t1 h5 hpN (eG1.trans e) hsg hlv h0 h4 t5.ob (ho.sl t2.1) (fun G2 d1 d2 => ?_)).mono (fun r N3 G3 kc3 ks3 q => q)
    exact hK 0 N G2 (0 + 0) (0 + 0) mk d1 (t2.trans d2) (by omega) (by omega)
theorem j_put36 {p t w3 : Nat} {p2 sg lv : Int32} {b2 b3 o1 o2 : Option Nat} (h : q_nI N G u c mk hd sp) (hd1 : hd ≤ 1) (hF : ∀ q, F q → q < N ∧ ¬ q_V G q) (h5 : 5 ≤ p) (hpN : p < N) (fp : F p) (e : G p = oC 9 [.int sg, .int lv, .ref t, va_rf b2, va_rf b3]) (hb3 : q_To F N G b3 w3) (hu : u + w3 ≤ 20000) (hsg : sg.toInt ≠ 0) (hlv : lv.toInt = -1 ∨ (0 ≤ lv.toInt ∧ lv.toInt < 4)) (h0 : 0 ≤ p2.toInt) (h4 : p2.toInt < 4) (ho1 : q_oo N G 10 o1) (ho2 : q_oo N G 10 o2) (hn1 : o1 ≠ none) (hn2 : sg.toInt ≠ 99 → o2 ≠ none ∧ (sg.toInt ≠ 61 → b3 ≠ none))
    (hK : ∀ (v : Int32) N1 G1 kc ks u1 c1 mk1, q_nI N1 G1 u1 c1 mk1 hd sp → q_NR N G N1 G1 → u ≤ u1 → u1 ≤ u + w3 → kc + c + 3 * mk ≤ c1 + 3 * mk1 → ks + 8 * c + 24 * mk ≤ 8 * c1 + 24 * mk1 → K (.inl (some (.int v))) N1 G1 kc ks) : cT 61 sM_55 36 [(0, .ref 9), (1, .ref p), (2, .int p2), (3, va_rf o1), (4, va_rf o2)] [] N G K := by
  have h64 := h.1.2.1.1
  obtain ⟨st, sl, e9⟩ := h.2.1
  obtain ⟨mt, fd, e10, -⟩ := h.1.2.2.2.1
  refine k_55_36 ⟨h5, hpN, sg, lv, t, b2, b3, e, fun hb => ?_, fun x2 ex => ⟨by omega, st, sp, sl, e9, by omega, mt, fd, e10, ?_⟩⟩
  · refine j_put60 h hd1 h5 hpN (hF p fp).2 e hsg hlv h0 h4 ⟨ho1, ho2, q_oo.none, hn1, fun q => ⟨(hn2 q).1, fun q2 => absurd hb ((hn2 q).2 q2)⟩⟩ (fun v N1 G1 kc ks mk1 t1 t2 t3 t4 => hK v N1 G1 kc ks u c mk1 t1 t2 (by omega) (by omega) (by omega) (by omega))
  · refine (j_build 5 x2 w3 N G u c _ h.1 (q_fU hF) (hb3 x2 ex) hu (fun y N1 G1 kc ks u1 c1 s1 s2 s3 s4 s5 s6 s7 => ⟨some y, rfl, ?_⟩)).dep (by omega)
    have i1 := h.ur s1 s2
    have r1 := q_NR.of s2
    obtain ⟨hE1, hF1⟩ := r1.fz hF
    have hN1 := s2.1.1
    refine j_put60 i1 hd1 h5 (by omega) (hF1 p fp).2 ((hE1 p fp).trans e) hsg hlv h0 h4 ⟨ho1.sl s2.1, ho2.sl s2.1, q_oo.some s3, hn1, fun q => ⟨(hn2 q).1, fun _ z => by cases z⟩⟩ (fun v N2 G2 kc2 ks2 mk1 t1 t2 t3 t4 => hK v N2 G2 (kc + kc2) (ks + ks2) u1 c1 mk1 t1 (r1.trans t2) (by omega) (by omega) (by omega) (by omega))
set_option maxHeartbeats 1000000 in
theorem j_put {p w : Nat} {p2 : Int32} (h : q_nI N G u c mk hd sp) (hd1 : hd ≤ 1) (hF : ∀ q, F q → q < N ∧ ¬ q_V G q) (hT : q_It F N G true p w) (hu : u + w ≤ 20000) (h0 : 0 ≤ p2.toInt) (h4 : p2.toInt < 4)
    (hK : ∀ (v : Int32) N1 G1 kc ks u1 c1 mk1, q_nI N1 G1 u1 c1 mk1 hd sp → q_NR N G N1 G1 → u ≤ u1 → u1 ≤ u + w → kc + c + 3 * mk ≤ c1 + 3 * mk1 → ks + 8 * c + 24 * mk ≤ 8 * c1 + 24 * mk1 → K (.inl (some (.int v))) N1 G1 kc ks) : cT 61 sM_55 0 [(0, .ref 9), (1, .ref p), (2, .int p2)] [] N G K := by
  have h64 := h.1.2.1.1
  obtain ⟨h5, hpN, fp, sg, lv, t1, o2, o3, w1, w2, w3, e1, e2, e3, e4, e5, -, e7⟩ := hT
  obtain ⟨hsg, hlv, hn⟩ := e7 rfl
  obtain ⟨st, sl, e9⟩ := h.2.1
  obtain ⟨mt, fd, e10, -⟩ := h.1.2.2.2.1
  refine k_55_0 ⟨by omega, st, sp, sl, e9, h5, hpN, sg, lv, t1, o2, o3, e1, by omega, mt, fd, e10, ?_⟩
  refine (j_build 5 t1 w1 N G u c _ h.1 (q_fU hF) e2 (by omega) (fun y N1 G1 kc ks u1 c1 s1 s2 s3 s4 s5 s6 s7 => ?_)).dep (by omega)
  have i1 := h.ur s1 s2
  have r1 := q_NR.of s2
  obtain ⟨hE1, hF1⟩ := r1.fz hF
  have hN1 := s2.1.1
  have h641 := s1.2.1.1
  obtain ⟨st1, sl1, e91⟩ := i1.2.1
  obtain ⟨mt1, fd1, e101, -⟩ := s1.2.2.2.1
  refine ⟨some y, rfl, h5, by omega, sg, lv, t1, o2, o3, (hE1 p fp).trans e1, fun hz => ?_, fun x6 ex => ⟨by omega, st1, sp, sl1, e91, by omega, mt1, fd1, e101, ?_⟩⟩
  · exact j_put36 (w3 := w3) i1 hd1 hF1 h5 (by omega) fp ((hE1 p fp).trans e1) (e4.fr hN1 (fun _ z => z) hE1) (by omega) hsg hlv h0 h4 (q_oo.some s3) q_oo.none (fun z => by cases z) (fun q => ⟨fun _ => (hn q).1 hz, (hn q).2⟩) (fun v N2 G2 kc2 ks2 u2 c2 mk1 t1 t2 t3 t4 t5 t6 => hK v N2 G2 (kc + kc2) (ks + ks2) u2 c2 mk1 t1 (r1.trans t2) (by omega) (by omega) (by omega) (by omega))
  · refine (j_build 5 x6 w2 N1 G1 u1 c1 _ s1 (q_fU hF1) ((e3 x6 ex).fr hN1 (fun _ z => z) hE1) (by omega) (fun y2 N2 G2 kc2 ks2 u2 c2 v1 v2 v3 v4 v5 v6 v7 => ⟨some y2, rfl, ?_⟩)).dep (by omega)
    have i2 := i1.ur v1 v2
    have r2 := q_NR.of v2
    obtain ⟨hE2, hF2⟩ := (r1.trans r2).fz hF
    have hN2 := v2.1.1
    exact j_put36 (w3 := w3) i2 hd1 hF2 h5 (by omega) fp ((hE2 p fp).trans e1) (e4.fr (by omega) (fun _ z => z) hE2) (by omega) hsg hlv h0 h4 (q_oo.some (s3.sl v2.1)) (q_oo.some v3) (fun z => by cases z) (fun q => ⟨fun z => (by cases z), (hn q).2⟩) (fun v N3 G3 kc3 ks3 u3 c3 mk1 t1 t2 t3 t4 t5 t6 => hK v N3 G3 (kc + kc2 + kc3) (ks + ks2 + ks3) u3 c3 mk1 t1 ((r1.trans r2).trans t2) (by omega) (by omega) (by omega) (by omega))
theorem j_putAll5 {p2 : Int32} {g m w : Nat} {a n : Nat} {sz mc : Int32} {f : Nat → Option Nat} {ws : Nat → Nat} (hd1 : hd ≤ 1) (g5 : 5 ≤ g) (fg : F g) (d2 : sz.toInt = (m : Int)) (d4 : F a) (d6 : m ≤ n) (hm : m ≤ 100) (h0 : 0 ≤ p2.toInt) (h4 : p2.toInt < 4) : ∀ (j i : Nat) (p3 p4 : Int32) (N : Nat) (G : Nat → sx_C) (u c mk : Nat) (K : Option Value ⊕ Nat → Nat → (Nat → sx_C) → Nat → Nat → Prop), i + j = m → p4.toInt = (i : Int) → q_nI N G u c mk hd sp → (∀ q, F q → q < N ∧ ¬ q_V G q) → G g = oC 13 [.ref a, .int sz, .int mc] → G a = aC 4 n f → (∀ i, i < m → ∃ q, f i = some q ∧ q_It F N G true q (ws i)) → u + q_sm ws m ≤ 20000 + q_sm ws i → (∀ (v : Int32) N1 G1 kc ks u1 c1 mk1, q_nI N1 G1 u1 c1 mk1 hd sp → q_NR N G N1 G1 → u ≤ u1 → u1 + q_sm ws i ≤ u + q_sm ws m → kc + c + 3 * mk ≤ c1 + 3 * mk1 → ks + 8 * c + 24 * mk ≤ 8 * c1 + 24 * mk1 → K (.inl (some (.int v))) N1 G1 kc ks) → cT 62 sM_87 5 [(0, .ref 9), (1, .ref g), (2, .int p2), (3, .int p3), (4, .int p4)] [] N G K := by
  intro j
  induction j with
  | zero =>
    intro i p3 p4 N G u c mk K hij hp4 h hF d1 d5 d7 hu hK
    have hi : i = m := by omega
    subst hi
    exact k_87_5 ⟨g5, (hF g fg).1, a, sz, mc, d1, fun _ => hK p3 N G 0 0 u c mk h q_NR.rfl' (by omega) (by omega) (by omega) (by omega), fun q => by omega⟩
  | succ j ih =>
    intro i p3 p4 N G u c mk K hij hp4 h hF d1 d5 d7 hu hK
    have h64 := h.1.2.1.1
    obtain ⟨st, sl, e9⟩ := h.2.1
    obtain ⟨q, q1, q2⟩ := d7 i (by omega)
    have q2' := q2
    obtain ⟨b1, b2, b3, sg, lv, t1, o2, o3, w1', w2', w3', b4, -⟩ := q2'
    have ec : p4.toNatClampNeg = i := i32_cl hp4
    have hsm : q_sm ws (i + 1) = q_sm ws i + ws i := rfl
    have hsm2 : q_sm ws (i + 1) ≤ q_sm ws m := q_sm_le (by omega)
    have hsm3 : q_sm ws i ≤ q_sm ws m := q_sm_le (by omega)
    refine k_87_5 ⟨g5, (hF g fg).1, a, sz, mc, d1, fun q => by omega, fun _ => ⟨fun _ => hK p3 N G 0 0 u c mk h q_NR.rfl' (by omega) (by omega) (by omega) (by omega), fun _ => ⟨fun q => by omega, fun _ => ⟨fun _ => ⟨(hF a d4).1, n, f, d5, by omega, by omega, q, by rw [ec]; exact q1, b1, b2, sg, lv, t1, o2, o3, b4, by omega, st, sp, sl, e9, ?_⟩, fun q => by omega⟩⟩⟩⟩
    refine j_put h hd1 hF q2 (by omega) h0 h4 (fun v N1 G1 kc ks u1 c1 mk1 t1 t2 t3 t4 t5 t6 => ⟨v, rfl, ?_⟩)
    obtain ⟨hE1, hF1⟩ := t2.fz hF
    refine ih (i + 1) v (p4 + 1) N1 G1 u1 c1 mk1 _ (by omega) (by rw [i32_succ (by omega) (by omega), hp4]; omega) t1 hF1 ((hE1 g fg).trans d1) ((hE1 a d4).trans d5) (fun i hi => ?_) (by omega) (fun v2 N2 G2 kc2 ks2 u2 c2 mk2 s1 s2 s3 s4 s5 s6 => hK v2 N2 G2 (kc + kc2) (ks + ks2) u2 c2 mk2 s1 (t2.trans s2) (by omega) (by omega) (by omega) (by omega))
    obtain ⟨q, g1, g2⟩ := d7 i hi
    exact ⟨q, g1, g2.fr t2.1.1 (fun _ z => z) hE1⟩
theorem j_putAll {p2 : Int32} {g m w : Nat} (h : q_nI N G u c mk hd sp) (hd1 : hd ≤ 1) (hF : ∀ q, F q → q < N ∧ ¬ q_V G q) (hL : q_Li F N G true g m w) (hm : m ≤ 100) (hu : u + w ≤ 20000) (h0 : 0 ≤ p2.toInt) (h4 : p2.toInt < 4)
    (hK : ∀ (v : Int32) N1 G1 kc ks u1 c1 mk1, q_nI N1 G1 u1 c1 mk1 hd sp → q_NR N G N1 G1 → u ≤ u1 → u1 ≤ u + w → kc + c + 3 * mk ≤ c1 + 3 * mk1 → ks + 8 * c + 24 * mk ≤ 8 * c1 + 24 * mk1 → K (.inl (some (.int v))) N1 G1 kc ks) : cT 62 sM_87 0 [(0, .ref 9), (1, .ref g), (2, .int p2)] [] N G K := by
  obtain ⟨g5, gN, fg, a, n, sz, mc, f, ws, d1, d2, d3, d4, d5, d6, d7, d8⟩ := hL
  refine k_87_0 (j_putAll5 (w := w) hd1 g5 fg d2 d4 d6 hm h0 h4 m 0 0 0 N G u c mk _ (by omega) rfl h hF d1 d5 d7 (by show _ + _ ≤ 20000 + 0; omega) (fun v N1 G1 kc ks u1 c1 mk1 t1 t2 t3 t4 t5 t6 => hK v N1 G1 kc ks u1 c1 mk1 t1 t2 t3 (by have t4' : u1 + 0 ≤ u + q_sm ws m := t4; omega) t5 t6))
end QJ
