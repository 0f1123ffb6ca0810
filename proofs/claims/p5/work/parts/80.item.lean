/-! Reader.readGuard, readGoal, readReckoning, readLevel -/
def pU (T : Nat → Int32) (n p : Nat) : Option Nat := match pT T n 5 p with
  | none => none
  | some q => if gC T n q = 60 ∨ gC T n q = 61 ∨ gC T n q = 126 then pT T n 5 (q + 1) else none
def pK (T : Nat → Int32) (n p : Nat) : Option Nat := match pT T n 5 p with
  | none => none
  | some q => if gC T n q = 43 ∨ gC T n q = 45 ∨ gC T n q = 42 then pT T n 5 (q + 1) else none
def pL (T : Nat → Int32) (n q : Nat) : Option Nat := if gC T n q = 94 then (if 48 ≤ gC T n (q + 1) ∧ gC T n (q + 1) ≤ 51 then some (q + 2) else none) else some q
def pG (T : Nat → Int32) (n p : Nat) : Option Nat := match pT T n 5 p with
  | none => none
  | some q => if gC T n q = 61 then pT T n 5 (q + 1) else if gK (gC T n p) = 0 then (if gC T n q = 35 then pK T n (q + 1) else none) else if gK (gC T n p) = 2 then pL T n q else none
def q_iv (a b q : Nat) : Prop := a ≤ q ∧ q < b
section QIt
variable {T : Nat → Int32} {N N0 N1 n p y : Nat} {G G1 : Nat → sx_C} {F : Nat → Prop} {K : Option Value ⊕ Nat → Nat → (Nat → sx_C) → Nat → Nat → Prop}
theorem q_RX.a6 {c : sx_C} (h : q_RX q_w6 N G N1 G1) {fs : List Value} (e : G1 6 = oC 1 fs) : q_RX q_w6 N G N1 (va_up G1 6 c) := h.tr (q_RX.up (W := q_w6) (fun q => by
  rw [e] at q
  rcases q with ⟨ci, gs, z, z2⟩ | ⟨t, m, f, z, -⟩
  · have := (oC_inj z).1
    omega
  · exact (oa_ne z).elim) rfl) (fun _ _ z => z)
/-- a new Item -/
theorem q_RX.it {c : sx_C} {fs : List Value} (h : q_RX q_w6 N G N1 G1) (hN : 6 < N) : q_RX q_w6 N G (N1 + 1) (va_up (va_up G1 N1 c) N1 (oC 9 fs)) := by
  have hN1 := h.1
  refine h.tr (W' := q_w6) ⟨by omega, fun p hp _ => by rw [va_ne (by omega), va_ne (by omega)], fun p h1 h2 => ?_, fun p hp hf => by rw [va_ne (by omega), va_ne (by omega)]; exact hf⟩ (fun _ _ z => z)
  rw [show p = N1 by omega, up_eq]
  exact Or.inl ⟨9, _, rfl, Or.inr (Or.inr (Or.inl rfl))⟩
theorem q_rd.it {c c' : sx_C} (h : q_rd G T n p) (hN : 7 < N) : q_rd (va_up (va_up G N c) N c') T n p := h.fr (by rw [va_ne (by omega), va_ne (by omega)]) (by rw [va_ne (by omega), va_ne (by omega)])
theorem q_Tm.ex {r w : Nat} (h : q_Tm (q_iv N0 N) N G r y w) (hN : N ≤ N1) (e : ∀ q, q < N → q ≠ 6 → G1 q = G q) (h6 : 6 < N0) : q_Tm (q_iv N0 N1) N1 G1 r y w := h.fr hN (fun q z => ⟨z.1, Nat.lt_of_lt_of_le z.2 hN⟩) (fun q z => e q z.2 (by have := z.1; omega))
theorem q_Tm.lo {r w N0' : Nat} (h : q_Tm (q_iv N0 N) N G r y w) (hN : N0' ≤ N0) : q_Tm (q_iv N0' N) N G r y w := h.fr (Nat.le_refl N) (fun q z => ⟨Nat.le_trans hN z.1, z.2⟩) (fun q _ => rfl)
set_option maxHeartbeats 2000000 in
theorem j_guard (h64 : 64 < N) (hrd : q_rd G T n p)
    (hK1 : ∀ e N1 G1 y w kc ks, pU T n p = some e → q_RX q_w6 N G N1 G1 → q_rd G1 T n e → q_It (q_iv N N1) N1 G1 false y w → p < e → w + p ≤ e → kc + 2 * p ≤ 2 * e + 1 → ks + 8 * p ≤ 8 * e + 5 → K (.inl (some (.ref y))) N1 G1 kc ks)
    (hK0 : ∀ e N1 G1 kc ks, pU T n p = none → q_RX q_w6 N G N1 G1 → q_rd G1 T n e → p ≤ e → kc + 2 * p ≤ 2 * e → ks + 8 * p ≤ 8 * e → K (.inl (some .null)) N1 G1 kc ks) : cT 61 sM_37 0 [(0, .ref 6)] [] N G K := by
  obtain ⟨ln, at_, g1, g2, g3, g4, g5, g6⟩ := id hrd
  refine k_37_0 ⟨by omega, ln, at_, g1, (j_term 4 p N G 1 _ h64 hrd rfl (fun e N1 G1 y w kc ks k v s cp t1 t2 t3 t4 t5 t6 t7 t8 t9 t10 => ⟨some y, rfl, fun q => (by cases q), fun x3 ex => ?_⟩) (fun e N1 G1 kc ks t1 t2 t3 t4 t5 t6 => ⟨none, rfl, fun _ => hK0 e N1 G1 kc ks (by unfold pU; rw [t1]) t2 t3 t4 t5 t6, fun x ex => (by cases ex)⟩)).dep (by omega)⟩
  cases ex
  obtain ⟨ln1, at1, m1, m2, m3, m4, m5, m6⟩ := id t3
  have hN1 := t2.1
  have ec : at1.toNatClampNeg = e := i32_cl m3
  have hpU : pU T n p = if gC T n e = 60 ∨ gC T n e = 61 ∨ gC T n e = 126 then pT T n 5 (e + 1) else none := by
    unfold pU
    rw [t1]
  have bad : ¬ (gC T n e = 60 ∨ gC T n e = 61 ∨ gC T n e = 126) → K (.inl (some .null)) N1 G1 kc ks := fun q => hK0 e N1 G1 kc ks (by rw [hpU, if_neg q]) t2 t3 (by omega) (by omega) (by omega)
  refine ⟨by omega, ln1, at1, m1, fun hge => bad ?_, fun hlt => ⟨by omega, T, m6, by omega, by omega, ?_⟩⟩
  · have hg : gC T n e = 0 := gC_out (by omega)
    omega
  rw [ec]
  have hg : gC T n e = (T e).toInt := gC_in (by omega)
  have hnx := t3.nx (by omega) m1
  have hR6 := t2.a6 (c := oC 1 [.ref 7, .int ln1, .int (at1 + 1)]) m1
  have good : (gC T n e = 60 ∨ gC T n e = 61 ∨ gC T n e = 126) → cT 60 sM_28 0 [(0, .ref 6), (1, .int 1)] [] N1 (va_up G1 6 (oC 1 [.ref 7, .int ln1, .int (at1 + 1)])) (fun r11 N11 G11 kc11 ks11 => ∃ o11 : Option Nat, r11 = .inl (some (va_rf o11)) ∧ ((o11 = none → K (.inl (some (.null))) (N11) G11 (kc + kc11) (ks + ks11)) ∧ (∀ x12, o11 = some x12 → 5 ≤ N11 ∧ K (.inl (some (.ref N11))) (N11 + 1) (va_up (va_up G11 N11 (oC 9 [.int 0, .int 0, .null, .null, .null])) N11 (oC 9 [.int (T e), .int (-1), .ref y, .ref x12, .null])) (kc + kc11 + 1) (ks + ks11 + 5)))) := fun hs => by
    refine (j_term 4 (e + 1) N1 _ 1 _ (by omega) hnx rfl (fun e2 N2 G2 y2 w2 kc2 ks2 k2 v2 s2 cp2 u1 u2 u3 u4 u5 u6 u7 u8 u9 u10 => ⟨some y2, rfl, fun q => (by cases q), fun x12 ex => ?_⟩) (fun e2 N2 G2 kc2 ks2 u1 u2 u3 u4 u5 u6 => ⟨none, rfl, fun _ => hK0 e2 N2 G2 _ _ (by rw [hpU, if_pos hs, u1]) (hR6.tr u2 (fun _ _ z => z)) u3 (by omega) (by omega) (by omega), fun x ex => (by cases ex)⟩)).dep (by omega)
    cases ex
    have hN2 := u2.1
    have hR2 := hR6.tr u2 (fun _ _ z => z)
    have eo : ∀ q, q < N2 → (va_up (va_up G2 N2 (oC 9 [.int 0, .int 0, .null, .null, .null])) N2 (oC 9 [.int (T e), .int (-1), .ref y, .ref y2, .null])) q = G2 q := fun q hq => by rw [va_ne (by omega), va_ne (by omega)]
    have hy : q_Tm (q_iv N (N2 + 1)) (N2 + 1) (va_up (va_up G2 N2 (oC 9 [.int 0, .int 0, .null, .null, .null])) N2 (oC 9 [.int (T e), .int (-1), .ref y, .ref y2, .null])) 5 y w := q_Tm.ex (N1 := N2 + 1) t4 (by omega) (fun q hq h6 => (eo q (by omega)).trans ((u2.2.1 q hq h6).trans (va_ne h6))) (by omega)
    have hy2 : q_Tm (q_iv N (N2 + 1)) (N2 + 1) (va_up (va_up G2 N2 (oC 9 [.int 0, .int 0, .null, .null, .null])) N2 (oC 9 [.int (T e), .int (-1), .ref y, .ref y2, .null])) 5 y2 w2 := (q_Tm.ex (N1 := N2 + 1) u4 (by omega) (fun q hq h6 => eo q hq) (by omega)).lo hN1
    exact ⟨by omega, hK1 e2 (N2 + 1) _ N2 (w + w2) _ _ (by rw [hpU, if_pos hs, u1]) (hR2.it (by omega)) (u3.it (by omega)) ⟨by omega, by omega, ⟨by omega, by omega⟩, T e, -1, y, some y2, none, w, w2, 0, up_eq, hy, fun z ez => (by cases ez; exact hy2), fun z ez => (by cases ez), by omega, fun _ z => (by cases z), fun z => (by cases z)⟩ (by omega) (by omega) (by omega) (by omega)⟩
  exact ⟨fun c => good (by omega), fun c1 => ⟨fun c => good (by omega), fun c2 => ⟨fun c => good (by omega), fun c3 => bad (by omega)⟩⟩⟩
set_option maxHeartbeats 2000000 in
theorem j_reck {y1 w1 : Nat} (h0 : 64 < N0) (hN0 : N0 ≤ N) (hrd : q_rd G T n p) (hy1 : q_Tm (q_iv N0 N) N G 5 y1 w1)
    (hK1 : ∀ e N1 G1 y w kc ks, pK T n p = some e → q_RX q_w6 N G N1 G1 → q_rd G1 T n e → q_It (q_iv N0 N1) N1 G1 true y w → p < e → w + p ≤ e + w1 → kc + 2 * p ≤ 2 * e + 1 → ks + 8 * p ≤ 8 * e + 5 → K (.inl (some (.ref y))) N1 G1 kc ks)
    (hK0 : ∀ e N1 G1 kc ks, pK T n p = none → q_RX q_w6 N G N1 G1 → q_rd G1 T n e → p ≤ e → kc + 2 * p ≤ 2 * e → ks + 8 * p ≤ 8 * e → K (.inl (some .null)) N1 G1 kc ks) : cT 61 sM_40 0 [(0, .ref 6), (1, .ref y1)] [] N G K := by
  obtain ⟨ln, at_, g1, g2, g3, g4, g5, g6⟩ := id hrd
  refine k_40_0 ⟨by omega, ln, at_, g1, (j_term 4 p N G 1 _ (by omega) hrd rfl (fun e N1 G1 y w kc ks k v s cp t1 t2 t3 t4 t5 t6 t7 t8 t9 t10 => ⟨some y, rfl, fun q => (by cases q), fun x3 ex => ?_⟩) (fun e N1 G1 kc ks t1 t2 t3 t4 t5 t6 => ⟨none, rfl, fun _ => hK0 e N1 G1 kc ks (by unfold pK; rw [t1]) t2 t3 t4 t5 t6, fun x ex => (by cases ex)⟩)).dep (by omega)⟩
  cases ex
  obtain ⟨ln1, at1, m1, m2, m3, m4, m5, m6⟩ := id t3
  have hN1 := t2.1
  have ec : at1.toNatClampNeg = e := i32_cl m3
  have hpU : pK T n p = if gC T n e = 43 ∨ gC T n e = 45 ∨ gC T n e = 42 then pT T n 5 (e + 1) else none := by
    unfold pK
    rw [t1]
  have bad : ¬ (gC T n e = 43 ∨ gC T n e = 45 ∨ gC T n e = 42) → K (.inl (some .null)) N1 G1 kc ks := fun q => hK0 e N1 G1 kc ks (by rw [hpU, if_neg q]) t2 t3 (by omega) (by omega) (by omega)
  refine ⟨by omega, ln1, at1, m1, fun hge => bad ?_, fun hlt => ⟨by omega, T, m6, by omega, by omega, ?_⟩⟩
  · have hg : gC T n e = 0 := gC_out (by omega)
    omega
  rw [ec]
  have hg : gC T n e = (T e).toInt := gC_in (by omega)
  have hnx := t3.nx (by omega) m1
  have hR6 := t2.a6 (c := oC 1 [.ref 7, .int ln1, .int (at1 + 1)]) m1
  have good : (gC T n e = 43 ∨ gC T n e = 45 ∨ gC T n e = 42) → cT 60 sM_28 0 [(0, .ref 6), (1, .int 1)] [] N1 (va_up G1 6 (oC 1 [.ref 7, .int ln1, .int (at1 + 1)])) (fun r11 N11 G11 kc11 ks11 => ∃ o11 : Option Nat, r11 = .inl (some (va_rf o11)) ∧ ((o11 = none → K (.inl (some (.null))) (N11) G11 (kc + kc11) (ks + ks11)) ∧ (∀ x12, o11 = some x12 → 5 ≤ N11 ∧ K (.inl (some (.ref N11))) (N11 + 1) (va_up (va_up G11 N11 (oC 9 [.int 0, .int 0, .null, .null, .null])) N11 (oC 9 [.int (T e), .int (-1), .ref y1, .ref y, .ref x12])) (kc + kc11 + 1) (ks + ks11 + 5)))) := fun hs => by
    refine (j_term 4 (e + 1) N1 _ 1 _ (by omega) hnx rfl (fun e2 N2 G2 y2 w2 kc2 ks2 k2 v2 s2 cp2 u1 u2 u3 u4 u5 u6 u7 u8 u9 u10 => ⟨some y2, rfl, fun q => (by cases q), fun x12 ex => ?_⟩) (fun e2 N2 G2 kc2 ks2 u1 u2 u3 u4 u5 u6 => ⟨none, rfl, fun _ => hK0 e2 N2 G2 _ _ (by rw [hpU, if_pos hs, u1]) (hR6.tr u2 (fun _ _ z => z)) u3 (by omega) (by omega) (by omega), fun x ex => (by cases ex)⟩)).dep (by omega)
    cases ex
    have hN2 := u2.1
    have hR2 := hR6.tr u2 (fun _ _ z => z)
    have eo : ∀ q, q < N2 → (va_up (va_up G2 N2 (oC 9 [.int 0, .int 0, .null, .null, .null])) N2 (oC 9 [.int (T e), .int (-1), .ref y1, .ref y, .ref y2])) q = G2 q := fun q hq => by rw [va_ne (by omega), va_ne (by omega)]
    have eo1 : ∀ q, q < N1 → q ≠ 6 → (va_up (va_up G2 N2 (oC 9 [.int 0, .int 0, .null, .null, .null])) N2 (oC 9 [.int (T e), .int (-1), .ref y1, .ref y, .ref y2])) q = G1 q := fun q hq h6 => (eo q (by omega)).trans ((u2.2.1 q hq h6).trans (va_ne h6))
    have hyT : q_Tm (q_iv N0 (N2 + 1)) (N2 + 1) (va_up (va_up G2 N2 (oC 9 [.int 0, .int 0, .null, .null, .null])) N2 (oC 9 [.int (T e), .int (-1), .ref y1, .ref y, .ref y2])) 5 y1 w1 := q_Tm.ex (N1 := N2 + 1) hy1 (by omega) (fun q hq h6 => (eo1 q (by omega) h6).trans (t2.2.1 q hq h6)) (by omega)
    have hy : q_Tm (q_iv N0 (N2 + 1)) (N2 + 1) (va_up (va_up G2 N2 (oC 9 [.int 0, .int 0, .null, .null, .null])) N2 (oC 9 [.int (T e), .int (-1), .ref y1, .ref y, .ref y2])) 5 y w := (q_Tm.ex (N1 := N2 + 1) t4 (by omega) eo1 (by omega)).lo hN0
    have hy2 : q_Tm (q_iv N0 (N2 + 1)) (N2 + 1) (va_up (va_up G2 N2 (oC 9 [.int 0, .int 0, .null, .null, .null])) N2 (oC 9 [.int (T e), .int (-1), .ref y1, .ref y, .ref y2])) 5 y2 w2 := (q_Tm.ex (N1 := N2 + 1) u4 (by omega) (fun q hq h6 => eo q hq) (by omega)).lo (by omega)
    exact ⟨by omega, hK1 e2 (N2 + 1) _ N2 (w1 + w + w2) _ _ (by rw [hpU, if_pos hs, u1]) (hR2.it (by omega)) (u3.it (by omega)) ⟨by omega, by omega, ⟨by omega, by omega⟩, T e, -1, y1, some y, some y2, w1, w, w2, up_eq, hyT, fun z ez => (by cases ez; exact hy), fun z ez => (by cases ez; exact hy2), by omega, fun z => (by cases z), fun _ => ⟨by omega, Or.inl rfl, fun _ => ⟨fun z => (by cases z), fun _ z => (by cases z)⟩⟩⟩ (by omega) (by omega) (by omega) (by omega)⟩
  exact ⟨fun c => good (by omega), fun c1 => ⟨fun c => good (by omega), fun c2 => ⟨fun c => good (by omega), fun c3 => bad (by omega)⟩⟩⟩
set_option maxHeartbeats 1000000 in
theorem j_level {y1 w1 : Nat} (h0 : 64 < N0) (hN0 : N0 ≤ N) (hrd : q_rd G T n p) (hy1 : q_Tm (q_iv N0 N) N G 5 y1 w1)
    (hK1 : ∀ e N1 G1 y kc ks, pL T n p = some e → q_RX q_w6 N G N1 G1 → q_rd G1 T n e → q_It (q_iv N0 N1) N1 G1 true y w1 → p ≤ e → kc = 1 → ks = 5 → K (.inl (some (.ref y))) N1 G1 kc ks)
    (hK0 : ∀ e N1 G1, pL T n p = none → q_RX q_w6 N G N1 G1 → q_rd G1 T n e → p ≤ e → K (.inl (some .null)) N1 G1 0 0) : cT 2 sM_41 0 [(0, .ref 6), (1, .ref y1)] [] N G K := by
  obtain ⟨ln, at_, g1, g2, g3, g4, g5, g6⟩ := id hrd
  have ec : at_.toNatClampNeg = p := i32_cl g3
  have e1 : (at_ + 1).toInt = ((p + 1 : Nat) : Int) := by
    rw [i32_succ (by omega) (by omega), g3]
    omega
  have fin : ∀ (G2 : Nat → sx_C) (lv : Int32) (e : Nat), pL T n p = some e → q_RX q_w6 N G N G2 → q_rd G2 T n e → (∀ q, q < N → q ≠ 6 → G2 q = G q) → p ≤ e → (lv.toInt = -1 ∨ (0 ≤ lv.toInt ∧ lv.toInt < 4)) → K (.inl (some (.ref N))) (N + 1) (va_up (va_up G2 N (oC 9 [.int 0, .int 0, .null, .null, .null])) N (oC 9 [.int 99, .int lv, .ref y1, .null, .null])) 1 5 := by
    intro G2 lv e q1 q2 q3 q4 q5 q6
    have hT := q_Tm.ex (N1 := N + 1) (G1 := va_up (va_up G2 N (oC 9 [.int 0, .int 0, .null, .null, .null])) N (oC 9 [.int 99, .int lv, .ref y1, .null, .null])) hy1 (by omega) (fun q hq h6 => by rw [va_ne (by omega), va_ne (by omega)]; exact q4 q hq h6) (by omega)
    exact hK1 e (N + 1) _ N 1 5 q1 (q2.it (by omega)) (q3.it (by omega)) ⟨by omega, by omega, ⟨by omega, by omega⟩, 99, lv, y1, none, none, w1, 0, 0, up_eq, hT, fun z ez => (by cases ez), fun z ez => (by cases ez), by omega, fun z => (by cases z), fun _ => ⟨by decide, q6, fun z => absurd rfl z⟩⟩ q5 rfl rfl
  refine k_41_0 ⟨by omega, ln, at_, g1, fun hge => ⟨by omega, ?_⟩, fun hlt => ⟨by omega, T, g6, by omega, by omega, ?_⟩⟩
  · exact fin G (-1) p (by unfold pL; rw [gC_out (by omega), if_neg (by omega)]) q_RX.rfl' hrd (fun _ _ _ => rfl) (by omega) (Or.inl rfl)
  rw [ec]
  have hg : gC T n p = (T p).toInt := gC_in (by omega)
  have hnx := hrd.nx (by omega) g1
  have hR6 := (q_RX.rfl' (W := q_w6) (N := N) (G := G)).a6 (c := oC 1 [.ref 7, .int ln, .int (at_ + 1)]) g1
  refine ⟨fun c94 => ⟨fun hge1 => ?_, fun hlt1 => ⟨by omega, by omega, ?_⟩⟩, fun c94 => ⟨by omega, ?_⟩⟩
  · exact hK0 (p + 1) N _ (by unfold pL; rw [if_pos (by omega), gC_out (by omega), if_neg (by omega)]) hR6 hnx (by omega)
  · rw [i32_cl e1]
    have hg1 : gC T n (p + 1) = (T (p + 1)).toInt := gC_in (by omega)
    have t48 : (48 : Int32).toInt = 48 := rfl
    have hl : -2147483648 ≤ (T (p + 1)).toInt := Int32.le_toInt _
    by_cases hbig : (T (p + 1)).toInt < -2147483600
    · refine ⟨fun _ => hK0 (p + 1) N _ (by unfold pL; rw [if_pos (by omega), hg1, if_neg (by omega)]) hR6 hnx (by omega), fun _ => ⟨fun h4 => ?_, fun _ => hK0 (p + 1) N _ (by unfold pL; rw [if_pos (by omega), hg1, if_neg (by omega)]) hR6 hnx (by omega)⟩⟩
      exfalso
      have hsub : (T (p + 1) - 48).toInt = (T (p + 1)).toInt - 48 + 4294967296 := by
        have z : ((2 ^ 32 : Nat) : Int) = 4294967296 := rfl
        rw [Int32.toInt_sub, t48, Int.bmod_def, z]
        split <;> omega
      omega
    · have ev : (T (p + 1) - 48).toInt = (T (p + 1)).toInt - 48 := i32_sub (by rw [t48]) (by omega) (by
        have hu : (T (p + 1)).toInt < 2147483648 := Int32.toInt_lt _
        omega)
      refine ⟨fun c0 => hK0 (p + 1) N _ (by unfold pL; rw [if_pos (by omega), hg1, if_neg (by omega)]) hR6 hnx (by omega), fun c0 => ⟨fun c4 => ⟨by omega, ?_⟩, fun c4 => hK0 (p + 1) N _ (by unfold pL; rw [if_pos (by omega), hg1, if_neg (by omega)]) hR6 hnx (by omega)⟩⟩
      have hnx2 : q_rd (va_up G 6 (oC 1 [.ref 7, .int ln, .int (at_ + 1 + 1)])) T n (p + 2) := by
        refine ⟨ln, at_ + 1 + 1, up_eq, g2, ?_, by omega, g5, (va_ne (by decide)).trans g6⟩
        rw [i32_succ (by omega) (by omega), e1]
        omega
      exact fin _ _ (p + 2) (by unfold pL; rw [if_pos (by omega), hg1, if_pos (by omega)]) ((q_RX.rfl' (W := q_w6) (N := N) (G := G)).a6 g1) hnx2 (fun q _ h6 => va_ne h6) (by omega) (Or.inr ⟨by omega, by omega⟩)
  · exact fin G (-1) p (by unfold pL; rw [if_neg (by omega)]) q_RX.rfl' hrd (fun _ _ _ => rfl) (by omega) (Or.inl rfl)
set_option maxHeartbeats 2000000 in
theorem j_goal (h64 : 64 < N) (hrd : q_rd G T n p)
    (hK1 : ∀ e N1 G1 y w kc ks, pG T n p = some e → q_RX q_w6 N G N1 G1 → q_rd G1 T n e → q_It (q_iv N N1) N1 G1 true y w → p < e → w + p ≤ e → kc + 2 * p ≤ 2 * e + 1 → ks + 8 * p ≤ 8 * e + 5 → K (.inl (some (.ref y))) N1 G1 kc ks)
    (hK0 : ∀ e N1 G1 kc ks, pG T n p = none → q_RX q_w6 N G N1 G1 → q_rd G1 T n e → p ≤ e → kc + 2 * p ≤ 2 * e → ks + 8 * p ≤ 8 * e → K (.inl (some .null)) N1 G1 kc ks) : cT 62 sM_39 0 [(0, .ref 6)] [] N G K := by
  obtain ⟨ln, at_, g1, g2, g3, g4, g5, g6⟩ := id hrd
  refine k_39_0 ⟨by omega, ln, at_, g1, (j_term 4 p N G 1 _ h64 hrd rfl (fun e N1 G1 y w kc ks k v s cp t1 t2 t3 t4 t5 t6 t7 t8 t9 t10 => ⟨some y, rfl, fun q => (by cases q), fun x3 ex => ?_⟩) (fun e N1 G1 kc ks t1 t2 t3 t4 t5 t6 => ⟨none, rfl, fun _ => hK0 e N1 G1 kc ks (by unfold pG; rw [t1]) t2 t3 t4 t5 t6, fun x ex => (by cases ex)⟩)).dep (by omega)⟩
  cases ex
  obtain ⟨ln1, at1, m1, m2, m3, m4, m5, m6⟩ := id t3
  have hN1 := t2.1
  have ec : at1.toNatClampNeg = e := i32_cl m3
  obtain ⟨y5, yN, -⟩ := j_tm t4
  have hpG : pG T n p = if gC T n e = 61 then pT T n 5 (e + 1) else if gK (gC T n p) = 0 then (if gC T n e = 35 then pK T n (e + 1) else none) else if gK (gC T n p) = 2 then pL T n e else none := by
    unfold pG
    rw [t1]
  have bad : pG T n p = none → K (.inl (some .null)) N1 G1 kc ks := fun q => hK0 e N1 G1 kc ks q t2 t3 (by omega) (by omega) (by omega)
  have lev : gC T n e ≠ 61 → k.toInt = 2 → cT 2 sM_41 0 [(0, .ref 6), (1, .ref y)] [] N1 G1 (fun r17 N17 G17 kc17 ks17 => ∃ o17 : Option Nat, r17 = .inl (some (va_rf o17)) ∧ K (.inl (some (va_rf o17))) (N17) G17 (kc + kc17) (ks + ks17)) := fun c61 hk => by
    have hp2 : pG T n p = pL T n e := by rw [hpG, if_neg c61, if_neg (by omega), if_pos (by omega)]
    exact j_level (N0 := N) (w1 := w) (by omega) hN1 t3 t4 (fun e2 N2 G2 y2 kc2 ks2 u1 u2 u3 u4 u5 u6 u7 => ⟨some y2, rfl, hK1 e2 N2 G2 y2 w _ _ (hp2.trans u1) (t2.tr u2 (fun _ _ z => z)) u3 u4 (by omega) (by omega) (by omega) (by omega)⟩) (fun e2 N2 G2 u1 u2 u3 u4 => ⟨none, rfl, hK0 e2 N2 G2 _ _ (hp2.trans u1) (t2.tr u2 (fun _ _ z => z)) u3 (by omega) (by omega) (by omega)⟩)
  refine ⟨by omega, ln1, at1, m1, fun hge => ⟨y5, yN, k, v, s, cp, t5, fun hk0 => ⟨fun hk2 => bad ?_, fun hk2 => lev ?_ hk2⟩, fun hk0 => ⟨fun _ => bad ?_, fun q => by omega⟩⟩, fun hlt => ⟨by omega, T, m6, by omega, by omega, ?_⟩⟩
  · rw [hpG, gC_out (by omega), if_neg (by omega), if_neg (by omega), if_neg (by omega)]
  · rw [gC_out (by omega)]
    omega
  · rw [hpG, gC_out (p := e) (by omega), if_neg (by omega), if_pos (by omega), if_neg (by omega)]
  rw [ec]
  have hg : gC T n e = (T e).toInt := gC_in (by omega)
  have hnx := t3.nx (by omega) m1
  have hR6 := t2.a6 (c := oC 1 [.ref 7, .int ln1, .int (at1 + 1)]) m1
  refine ⟨fun c61 => ?_, fun c61 => ⟨y5, yN, k, v, s, cp, t5, fun hk0 => ⟨fun hk2 => bad ?_, fun hk2 => lev (by omega) hk2⟩, fun hk0 => ⟨fun q => by omega, fun _ => ⟨by omega, by omega, fun c35 => ?_, fun c35 => bad ?_⟩⟩⟩⟩
  · have hp2 : pG T n p = pT T n 5 (e + 1) := by rw [hpG, if_pos (by omega)]
    refine (j_term 4 (e + 1) N1 _ 1 _ (by omega) hnx rfl (fun e2 N2 G2 y2 w2 kc2 ks2 k2 v2 s2 cp2 u1 u2 u3 u4 u5 u6 u7 u8 u9 u10 => ⟨some y2, rfl, fun q => (by cases q), fun x12 ex => ?_⟩) (fun e2 N2 G2 kc2 ks2 u1 u2 u3 u4 u5 u6 => ⟨none, rfl, fun _ => hK0 e2 N2 G2 _ _ (hp2.trans u1) (hR6.tr u2 (fun _ _ z => z)) u3 (by omega) (by omega) (by omega), fun x ex => (by cases ex)⟩)).dep (by omega)
    cases ex
    have hN2 := u2.1
    have hR2 := hR6.tr u2 (fun _ _ z => z)
    have eo : ∀ q, q < N2 → (va_up (va_up G2 N2 (oC 9 [.int 0, .int 0, .null, .null, .null])) N2 (oC 9 [.int 61, .int (-1), .ref y, .ref y2, .null])) q = G2 q := fun q hq => by rw [va_ne (by omega), va_ne (by omega)]
    have hy : q_Tm (q_iv N (N2 + 1)) (N2 + 1) (va_up (va_up G2 N2 (oC 9 [.int 0, .int 0, .null, .null, .null])) N2 (oC 9 [.int 61, .int (-1), .ref y, .ref y2, .null])) 5 y w := q_Tm.ex (N1 := N2 + 1) t4 (by omega) (fun q hq h6 => (eo q (by omega)).trans ((u2.2.1 q hq h6).trans (va_ne h6))) (by omega)
    have hy2 : q_Tm (q_iv N (N2 + 1)) (N2 + 1) (va_up (va_up G2 N2 (oC 9 [.int 0, .int 0, .null, .null, .null])) N2 (oC 9 [.int 61, .int (-1), .ref y, .ref y2, .null])) 5 y2 w2 := (q_Tm.ex (N1 := N2 + 1) u4 (by omega) (fun q hq h6 => eo q hq) (by omega)).lo hN1
    exact ⟨by omega, hK1 e2 (N2 + 1) _ N2 (w + w2) _ _ (hp2.trans u1) (hR2.it (by omega)) (u3.it (by omega)) ⟨by omega, by omega, ⟨by omega, by omega⟩, 61, -1, y, some y2, none, w, w2, 0, up_eq, hy, fun z ez => (by cases ez; exact hy2), fun z ez => (by cases ez), by omega, fun z => (by cases z), fun _ => ⟨by decide, Or.inl rfl, fun _ => ⟨fun z => (by cases z), fun z => absurd rfl z⟩⟩⟩ (by omega) (by omega) (by omega) (by omega)⟩
  · rw [hpG, if_neg (by omega), if_neg (by omega), if_neg (by omega)]
  · have hp2 : pG T n p = pK T n (e + 1) := by rw [hpG, if_neg (by omega), if_pos (by omega), if_pos (by omega)]
    have hy6 : q_Tm (q_iv N N1) N1 (va_up G1 6 (oC 1 [.ref 7, .int ln1, .int (at1 + 1)])) 5 y w := q_Tm.ex t4 (Nat.le_refl N1) (fun q _ h6 => va_ne h6) (by omega)
    exact j_reck (N0 := N) (w1 := w) (by omega) hN1 hnx hy6 (fun e2 N2 G2 y2 w2 kc2 ks2 u1 u2 u3 u4 u5 u6 u7 u8 => ⟨some y2, rfl, hK1 e2 N2 G2 y2 w2 _ _ (hp2.trans u1) (hR6.tr u2 (fun _ _ z => z)) u3 u4 (by omega) (by omega) (by omega) (by omega)⟩) (fun e2 N2 G2 kc2 ks2 u1 u2 u3 u4 u5 u6 => ⟨none, rfl, hK0 e2 N2 G2 _ _ (hp2.trans u1) (hR6.tr u2 (fun _ _ z => z)) u3 (by omega) (by omega) (by omega)⟩)
  · rw [hpG, if_neg (by omega), if_pos (by omega), if_neg (by omega)]
end QIt
