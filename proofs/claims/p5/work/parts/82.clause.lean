/-! Reader.readQuestion, readClause -/
def pQ (T : Nat → Int32) (n : Nat) : Option Nat := match pIs T n true 48 0 with
  | none => none
  | some q => if q.1 = n then some q.2 else none
def pE (T : Nat → Int32) (n q : Nat) : Bool := if gC T n q = 124 then (match pIs T n true 48 (q + 1) with
  | none => false
  | some r => decide (r.1 = n)) else decide (q = n)
def pC (T : Nat → Int32) (n : Nat) : Bool := if 97 ≤ gC T n 0 ∧ gC T n 0 ≤ 122 then (match pT T n 5 0 with
  | none => false
  | some q => if gC T n q = 58 then (match pIs T n false 48 (q + 1) with
    | none => false
    | some r => pE T n r.1) else pE T n q) else false
def q_f1 (N N1 q : Nat) : Prop := q_iv N N1 q ∨ q = 1
section QCl
variable {T : Nat → Int32} {N N1 n p : Nat} {G G1 : Nat → sx_C} {K : Option Value ⊕ Nat → Nat → (Nat → sx_C) → Nat → Nat → Prop}
theorem q_r0.z (h : q_r0 G T n) {ln at_ : Int32} (e : G 6 = oC 1 [.ref 7, .int ln, .int at_]) : q_rd (va_up G 6 (oC 1 [.ref 7, .int ln, .int 0])) T n 0 := by
  obtain ⟨ln', at', h1, h2, h5, h6⟩ := h
  have := (oC_inj (e.symm.trans h1)).2
  cases this
  exact ⟨ln, 0, up_eq, h2, rfl, Nat.zero_le _, h5, (va_ne (by decide)).trans h6⟩
theorem q_Li.nil {F : Nat → Prop} {b : Bool} {L : Nat} {f : Nat → Option Nat} (h5 : 5 ≤ L) (hN : L < N) (h1 : 1 < N) (fL : F L) (f1 : F 1) (e : G L = oC 13 [.ref 1, .int 0, .int 0]) (e1 : G 1 = aC 4 0 f) : q_Li F N G b L 0 0 :=
  ⟨h5, hN, fL, 1, 0, 0, 0, f, fun _ => 0, e, rfl, h1, f1, e1, Nat.le_refl _, fun i hi => by omega, Nat.le_refl _⟩
set_option maxHeartbeats 2000000 in
theorem j_quest (h64 : 64 < N) (hrd : q_r0 G T n) (h4 : ∃ j : Nat, G 4 = .inr (.inr j)) (h1 : ∃ f, G 1 = aC 4 0 f)
    (hK1 : ∀ N1 G1 m w kc ks, pQ T n = some m → q_RX q_w6 N G N1 G1 → (∃ e, q_rd G1 T n e) → q_Li (q_f1 N N1) N1 G1 true N m w → w ≤ 48 → m ≤ 48 → kc ≤ 380 → ks ≤ 3040 → K (.inl (some (.ref N))) N1 G1 kc ks)
    (hK0 : ∀ N1 G1 kc ks, pQ T n = none → q_RX q_w6 N G N1 G1 → (∃ e, q_rd G1 T n e) → kc ≤ 380 → ks ≤ 3040 → K (.inl (some .null)) N1 G1 kc ks) : cT 64 sM_47 0 [(0, .ref 6)] [] N G K := by
  obtain ⟨ln, at_, g1, g2, g5, g6⟩ := id hrd
  obtain ⟨j, h4⟩ := h4
  obtain ⟨f1, h1⟩ := h1
  refine k_47_0 ⟨by omega, ln, at_, g1, by omega, ?_⟩
  have hz := hrd.z g1
  have eo : ∀ q, q < N → q ≠ 6 → (va_up (va_up (va_up G 6 (oC 1 [.ref 7, .int ln, .int 0])) N (oC 13 [.null, .int 0, .int 0])) N (oC 13 [.ref 1, .int 0, .int 0])) q = G q := fun q hq h6 => by rw [va_ne (by omega), va_ne (by omega), va_ne h6]
  have hz' : q_rd (va_up (va_up (va_up G 6 (oC 1 [.ref 7, .int ln, .int 0])) N (oC 13 [.null, .int 0, .int 0])) N (oC 13 [.ref 1, .int 0, .int 0])) T n 0 := hz.it (by omega)
  have eN : (va_up (va_up (va_up G 6 (oC 1 [.ref 7, .int ln, .int 0])) N (oC 13 [.null, .int 0, .int 0])) N (oC 13 [.ref 1, .int 0, .int 0])) N = oC 13 [.ref 1, .int 0, .int 0] := up_eq
  have hR : q_RX q_w6 N G (N + 1) (va_up (va_up (va_up G 6 (oC 1 [.ref 7, .int ln, .int 0])) N (oC 13 [.null, .int 0, .int 0])) N (oC 13 [.ref 1, .int 0, .int 0])) := by
    refine ⟨by omega, fun q hq hn => eo q hq hn, fun q q1 q2 => ?_, fun q hq hf => ?_⟩
    · rw [show q = N by omega, eN]
      exact Or.inl ⟨13, _, rfl, Or.inr (Or.inr (Or.inr rfl))⟩
    · by_cases q6 : q = 6
      · exfalso
        rw [q6, g1] at hf
        rcases hf with ⟨ci, gs, z, z2⟩ | ⟨t, m, f, z, -⟩
        · have := (oC_inj z).1
          omega
        · exact (oa_ne z).elim
      · rw [eo q hq q6]
        exact hf
  generalize (va_up (va_up (va_up G 6 (oC 1 [.ref 7, .int ln, .int 0])) N (oC 13 [.null, .int 0, .int 0])) N (oC 13 [.ref 1, .int 0, .int 0])) = H at eo hz' eN hR ⊢
  have wtr : ∀ q, q < N → q_wL N 1 q → q_w6 q := fun q hq z => by
    rcases z with z | z | z
    · exact z
    · omega
    · exact absurd rfl z.2
  refine k_36_0 (j_items2 (b := true) (Or.inl ⟨rfl, rfl⟩) (by omega) 48 0 0 (N + 1) 0 1 0 H 0 0 f1 (fun _ => 0) (fun _ => False) _ rfl (by decide) (by omega) hz' ⟨j, (eo 4 (by omega) (by decide)).trans h4⟩ eN rfl (by omega) ((eo 1 (by omega) (by decide)).trans h1) (by omega) (by omega) (Or.inl ⟨rfl, rfl⟩) (by omega) (fun q z => z.elim) (fun i hi => by omega) (fun e m1 N1 G1 w kc ks nn1 u1 u2 u3 u4 u5 u6 u7 u8 u9 u10 => ⟨1, rfl, fun q => absurd q (by decide), fun _ => ?_⟩) (fun e N1 G1 kc ks nn1 u1 u2 u3 u4 u5 u6 u7 => ⟨0, rfl, fun _ => ?_, fun q => absurd rfl q⟩))
  · obtain ⟨ln1, at1, m1', m2, m3, m4, m5, m6⟩ := id u3
    have hN1 := u2.1
    have hsm : q_sm (fun _ => 0) 0 = 0 := rfl
    have hQ : pQ T n = if e = n then some m1 else none := by
      unfold pQ
      rw [u1]
    refine ⟨by omega, ln1, at1, m1', fun hne => ?_, fun heq => ?_⟩
    · exact hK0 N1 G1 _ _ (by rw [hQ, if_neg (by omega)]) (hR.tr u2 wtr) ⟨e, u3⟩ (by omega) (by omega)
    · refine hK1 N1 G1 m1 w _ _ (by rw [hQ, if_pos (by omega)]) (hR.tr u2 wtr) ⟨e, u3⟩ ?_ (by omega) (by omega) (by omega) (by omega)
      have u4' : q_Li _ N1 G1 true N (0 + m1) w := u4
      rw [Nat.zero_add] at u4'
      refine u4'.mono (fun q z => ?_) (Nat.le_refl _)
      rcases z with z | z | z | z
      · exact z.elim
      · exact Or.inl ⟨by have := z.1; omega, z.2⟩
      · exact Or.inl ⟨by omega, by omega⟩
      · exact Or.inr z
  · obtain ⟨ln1, at1, m1', m2, m3, m4, m5, m6⟩ := id u3
    refine hK0 N1 G1 _ _ ?_ (hR.tr u2 wtr) ⟨e, u3⟩ (by omega) (by omega)
    unfold pQ
    rw [u1]
theorem q_new7 {x9 : Nat} : (∀ q, q < N → (va_up (va_up (va_up (va_up (va_up (va_up (va_up G N (oC 8 [.null, .null, .null])) (N + 1) (oC 13 [.null, .int 0, .int 0])) (N + 1) (oC 13 [.ref 1, .int 0, .int 0])) N (oC 8 [.null, .ref (N + 1), .null])) (N + 1 + 1) (oC 13 [.null, .int 0, .int 0])) (N + 1 + 1) (oC 13 [.ref 1, .int 0, .int 0])) N (oC 8 [.ref x9, .ref (N + 1), .ref (N + 1 + 1)])) q = G q) ∧ (va_up (va_up (va_up (va_up (va_up (va_up (va_up G N (oC 8 [.null, .null, .null])) (N + 1) (oC 13 [.null, .int 0, .int 0])) (N + 1) (oC 13 [.ref 1, .int 0, .int 0])) N (oC 8 [.null, .ref (N + 1), .null])) (N + 1 + 1) (oC 13 [.null, .int 0, .int 0])) (N + 1 + 1) (oC 13 [.ref 1, .int 0, .int 0])) N (oC 8 [.ref x9, .ref (N + 1), .ref (N + 1 + 1)])) N = oC 8 [.ref x9, .ref (N + 1), .ref (N + 1 + 1)] ∧ (va_up (va_up (va_up (va_up (va_up (va_up (va_up G N (oC 8 [.null, .null, .null])) (N + 1) (oC 13 [.null, .int 0, .int 0])) (N + 1) (oC 13 [.ref 1, .int 0, .int 0])) N (oC 8 [.null, .ref (N + 1), .null])) (N + 1 + 1) (oC 13 [.null, .int 0, .int 0])) (N + 1 + 1) (oC 13 [.ref 1, .int 0, .int 0])) N (oC 8 [.ref x9, .ref (N + 1), .ref (N + 1 + 1)])) (N + 1) = oC 13 [.ref 1, .int 0, .int 0] ∧ (va_up (va_up (va_up (va_up (va_up (va_up (va_up G N (oC 8 [.null, .null, .null])) (N + 1) (oC 13 [.null, .int 0, .int 0])) (N + 1) (oC 13 [.ref 1, .int 0, .int 0])) N (oC 8 [.null, .ref (N + 1), .null])) (N + 1 + 1) (oC 13 [.null, .int 0, .int 0])) (N + 1 + 1) (oC 13 [.ref 1, .int 0, .int 0])) N (oC 8 [.ref x9, .ref (N + 1), .ref (N + 1 + 1)])) (N + 1 + 1) = oC 13 [.ref 1, .int 0, .int 0] := by
  refine ⟨fun q hq => ?_, up_eq, ?_, ?_⟩
  · rw [va_ne (by omega), va_ne (by omega), va_ne (by omega), va_ne (by omega), va_ne (by omega), va_ne (by omega), va_ne (by omega)]
  · rw [va_ne (by omega), va_ne (by omega), va_ne (by omega), va_ne (by omega), up_eq]
  · rw [va_ne (by omega), up_eq]
set_option maxHeartbeats 4000000 in
theorem j_clause (h64 : 64 < N) (hrd : q_r0 G T n) (h4 : ∃ j : Nat, G 4 = .inr (.inr j)) (h1 : ∃ f, G 1 = aC 4 0 f)
    (hK1 : ∀ N1 G1 y kc ks, pC T n = true → q_RX q_w6 N G N1 G1 → (∃ e, q_rd G1 T n e) → q_Cl (q_f1 N N1) N1 G1 y → N ≤ y → kc ≤ 380 → ks ≤ 3040 → K (.inl (some (.ref y))) N1 G1 kc ks)
    (hK0 : ∀ N1 G1 kc ks, pC T n = false → q_RX q_w6 N G N1 G1 → (∃ e, q_rd G1 T n e) → kc ≤ 380 → ks ≤ 3040 → K (.inl (some .null)) N1 G1 kc ks) : cT 64 sM_25 0 [(0, .ref 6)] [] N G K := by
  obtain ⟨ln, at_, g1, g2, g5, g6⟩ := id hrd
  obtain ⟨j, h4⟩ := h4
  obtain ⟨f1, h1⟩ := h1
  have hz := hrd.z g1
  have hR0 := (q_RX.rfl' (W := q_w6) (N := N) (G := G)).a6 (c := oC 1 [.ref 7, .int ln, .int 0]) g1
  have bad0 : ¬ (97 ≤ gC T n 0 ∧ gC T n 0 ≤ 122) → K (.inl (some .null)) N (va_up G 6 (oC 1 [.ref 7, .int ln, .int 0])) 0 0 := fun q => hK0 N _ 0 0 (by unfold pC; rw [if_neg q]) hR0 ⟨0, hz⟩ (by omega) (by omega)
  refine k_25_0 ⟨by omega, ln, at_, g1, fun hle => bad0 ?_, fun hgt => ⟨by omega, T, (va_ne (by decide)).trans g6, Int.le_refl 0, (by decide), ?_⟩⟩
  · rw [gC_out (by omega)]
    omega
  show ((T 0).toInt < 97 → _) ∧ _
  have hg : gC T n 0 = (T 0).toInt := gC_in (by omega)
  refine ⟨fun c97 => bad0 (by omega), fun c97 => ⟨fun c122 => bad0 ?_, fun c122 => ?_⟩⟩
  · have c122' : 122 < (T 0).toInt := c122
    omega
  have c122' : (T 0).toInt ≤ 122 := c122
  have c97' : 97 ≤ (T 0).toInt := c97
  have e60 : ∀ q, q ≠ 6 → (va_up G 6 (oC 1 [.ref 7, .int ln, .int 0])) q = G q := fun q z => va_ne z
  generalize (va_up G 6 (oC 1 [.ref 7, .int ln, .int 0])) = Gz at hz hR0 e60 ⊢
  have hpC : pC T n = match pT T n 5 0 with
      | none => false
      | some q => if gC T n q = 58 then (match pIs T n false 48 (q + 1) with
        | none => false
        | some r => pE T n r.1) else pE T n q := by
    unfold pC
    rw [if_pos (by omega)]
  refine (j_term 4 0 N Gz 1 _ h64 hz rfl (fun e N8 G8 x9 w kc8 ks8 k v s cp t1 t2 t3 t4 t5 t6 t7 t8 t9 t10 => ⟨some x9, rfl, fun q => (by cases q), fun x ex => ?_⟩) (fun e N1 G1 kc ks t1 t2 t3 t4 t5 t6 => ⟨none, rfl, fun _ => hK0 N1 G1 kc ks (by rw [hpC, t1]) (hR0.tr t2 (fun _ _ z => z)) ⟨e, t3⟩ (by
    obtain ⟨a, b, c1, c2, c3, c4, c5, c6⟩ := t3
    omega) (by
    obtain ⟨a, b, c1, c2, c3, c4, c5, c6⟩ := t3
    omega), fun x ex => (by cases ex)⟩)).dep (by omega)
  cases ex
  have hN8 := t2.1
  have e48 : e ≤ 48 := by
    obtain ⟨a, b, c1, c2, c3, c4, c5, c6⟩ := t3
    omega
  have hRa := hR0.tr t2 (fun _ _ z => z)
  obtain ⟨n1, n2, n3, n4⟩ := q_new7 (G := G8) (N := N8) (x9 := x9)
  generalize (va_up (va_up (va_up (va_up (va_up (va_up (va_up G8 N8 (oC 8 [.null, .null, .null])) (N8 + 1) (oC 13 [.null, .int 0, .int 0])) (N8 + 1) (oC 13 [.ref 1, .int 0, .int 0])) N8 (oC 8 [.null, .ref (N8 + 1), .null])) (N8 + 1 + 1) (oC 13 [.null, .int 0, .int 0])) (N8 + 1 + 1) (oC 13 [.ref 1, .int 0, .int 0])) N8 (oC 8 [.ref x9, .ref (N8 + 1), .ref (N8 + 1 + 1)])) = H at n1 n2 n3 n4 ⊢
  have hRH : q_RX q_w6 N G (N8 + 1 + 1 + 1) H := by
    refine hRa.tr (W' := q_w6) ⟨by omega, fun q hq _ => n1 q hq, fun q q1 q2 => ?_, fun q hq hf => by rw [n1 q hq]; exact hf⟩ (fun _ _ z => z)
    by_cases z : q = N8
    · rw [z, n2]
      exact Or.inl ⟨8, _, rfl, Or.inr (Or.inl rfl)⟩
    · by_cases z2 : q = N8 + 1
      · rw [z2, n3]
        exact Or.inl ⟨13, _, rfl, Or.inr (Or.inr (Or.inr rfl))⟩
      · rw [show q = N8 + 1 + 1 by omega, n4]
        exact Or.inl ⟨13, _, rfl, Or.inr (Or.inr (Or.inr rfl))⟩
  have hrH : q_rd H T n e := t3.fr (n1 6 (by omega)) (n1 7 (by omega))
  have g8 : ∀ q, q < N → q ≠ 6 → H q = G q := fun q hq h6 => hRH.2.1 q hq h6
  have hTH : q_Tm (q_f1 N (N8 + 1 + 1 + 1)) (N8 + 1 + 1 + 1) H 5 x9 w := t4.fr (by omega) (fun q z => Or.inl ⟨z.1, by have := z.2; omega⟩) (fun q z => n1 q z.2)
  -- the end: at e', with both lists read
  have fin : ∀ (N' : Nat) (G' : Nat → sx_C) (kc ks e' m1 m2 w2 w3 : Nat) (ln' at' : Int32), q_RX q_w6 N G N' G' → q_rd G' T n e' → G' 6 = oC 1 [.ref 7, .int ln', .int at'] → G' N8 = oC 8 [.ref x9, .ref (N8 + 1), .ref (N8 + 1 + 1)] → N8 < N' → q_Tm (q_f1 N N') N' G' 5 x9 w → q_Li (q_f1 N N') N' G' false (N8 + 1) m1 w2 → q_Li (q_f1 N N') N' G' true (N8 + 1 + 1) m2 w3 → w2 + w3 + w ≤ 48 → m1 ≤ 48 → m2 ≤ 48 → pC T n = decide (e' = n) → kc ≤ 380 → ks ≤ 3040 → ((at'.toInt ≠ ln'.toInt → K (.inl (some .null)) N' G' kc ks) ∧ (at'.toInt = ln'.toInt → K (.inl (some (.ref N8))) N' G' kc ks)) := by
    intro N' G' kc ks e' m1 m2 w2 w3 ln' at' d1 d2 d3 d4 d5 d6 d7 d8 d9 d10 d11 d12 d13 d14
    obtain ⟨a, b, c1, c2, c3, c4, c5, c6⟩ := id d2
    have := (oC_inj (d3.symm.trans c1)).2
    cases this
    refine ⟨fun q => hK0 N' G' kc ks (by rw [d12]; exact decide_eq_false (by omega)) d1 ⟨e', d2⟩ d13 d14, fun q => hK1 N' G' N8 kc ks (by rw [d12]; exact decide_eq_true (by omega)) d1 ⟨e', d2⟩ ⟨by omega, d5, Or.inl ⟨by omega, d5⟩, x9, N8 + 1, N8 + 1 + 1, m1, m2, w, w2, w3, d4, d6, d7, d8, by omega, d10, d11⟩ (by omega) d13 d14⟩
  -- the GOALS, from behind the | on
  have goals : ∀ (N' : Nat) (G' : Nat → sx_C) (kA kB e' m1 w2 : Nat) (ln' at' : Int32), q_RX q_w6 N G N' G' → N8 + 1 + 1 < N' → q_rd G' T n e' → G' 6 = oC 1 [.ref 7, .int ln', .int at'] → e' < n → G' N8 = oC 8 [.ref x9, .ref (N8 + 1), .ref (N8 + 1 + 1)] → q_Tm (q_f1 N N') N' G' 5 x9 w → (∃ F : Nat → Prop, (∀ q, F q → (q_iv N N' q ∨ q = 1) ∧ q ≠ N8 + 1 + 1) ∧ q_Li F N' G' false (N8 + 1) m1 w2) → (∃ F : Nat → Prop, (∀ q, F q → q_iv N N8 q) ∧ q_Tm F N' G' 5 x9 w) → G' (N8 + 1 + 1) = oC 13 [.ref 1, .int 0, .int 0] → w2 + w ≤ e' → m1 ≤ 48 → (∀ e2 m2, pIs T n true 48 (e' + 1) = some (e2, m2) → pC T n = decide (e2 = n)) → (pIs T n true 48 (e' + 1) = none → pC T n = false) → kA ≤ 3 * e' + 120 → kB ≤ 13 * e' + 900 →
      cT (63) sM_36 0 [(0, .ref 6), (1, .ref (N8 + 1 + 1)), (2, .int 0)] [] (N') (va_up G' 6 (oC 1 [.ref 7, .int ln', .int (at' + 1)])) (fun r65 N65 G65 kc65 ks65 => ∃ v65 : Int32, r65 = .inl (some (.int v65)) ∧ ((v65.toInt ≠ 0 → 6 < N65 ∧ ∃ (i67_1 : Int32) (i67_2 : Int32), G65 6 = oC 1 [.ref 7, .int i67_1, .int i67_2] ∧ ((i67_2.toInt ≠ i67_1.toInt → K (.inl (some (.null))) (N65) G65 (kA + kc65 + 3) (kB + ks65 + 9)) ∧ (i67_2.toInt = i67_1.toInt → K (.inl (some (.ref N8))) (N65) G65 (kA + kc65 + 3) (kB + ks65 + 9)))) ∧ (v65.toInt = 0 → K (.inl (some (.null))) (N65) G65 (kA + kc65 + 3) (kB + ks65 + 9)))) := by
    intro N' G' kA kB e' m1 w2 ln' at' d1 d2 d3 d4 d5 d6 d7 d8 d9 d10 d11 d12 d13 d14 d15 d16
    have hnx := d3.nx d5 d4
    have e6 : ∀ q, q ≠ 6 → (va_up G' 6 (oC 1 [.ref 7, .int ln', .int (at' + 1)])) q = G' q := fun q z => va_ne z
    have hR6 := d1.a6 (c := oC 1 [.ref 7, .int ln', .int (at' + 1)]) d4
    generalize (va_up G' 6 (oC 1 [.ref 7, .int ln', .int (at' + 1)])) = G6 at hnx e6 hR6 ⊢
    have h41 : G6 4 = .inr (.inr j) := (hR6.2.1 4 (by omega) (fun z => by have : 4 = 6 := z; omega)).trans h4
    have h11 : G6 1 = aC 4 0 f1 := (hR6.2.1 1 (by omega) (fun z => by have : 1 = 6 := z; omega)).trans h1
    have wtr : ∀ q, q < N → q_wL (N8 + 1 + 1) 1 q → q_w6 q := fun q hq z => by
      rcases z with z | z | z
      · exact z
      · omega
      · exact absurd rfl z.2
    refine k_36_0 (j_items2 (b := true) (Or.inl ⟨rfl, rfl⟩) (by omega) 48 0 (e' + 1) N' 0 1 0 G6 0 0 f1 (fun _ => 0) (fun _ => False) _ rfl (by decide) d2 hnx ⟨j, h41⟩ ((e6 _ (by omega)).trans d10) rfl (by omega) h11 (by omega) (by omega) (Or.inl ⟨rfl, rfl⟩) (by omega) (fun q z => z.elim) (fun i hi => by omega) (fun e2 m2 N2 G2 w3 kc ks nn1 u1 u2 u3 u4 u5 u6 u7 u8 u9 u10 => ⟨1, rfl, fun _ => ?_, fun q => absurd q (by decide)⟩) (fun e2 N2 G2 kc ks nn1 u1 u2 u3 u4 u5 u6 u7 => ⟨0, rfl, fun q => absurd rfl q, fun _ => ?_⟩))
    · obtain ⟨ln2, at2, c1, c2, c3, c4, c5, c6⟩ := id u3
      have hN2 := u2.1
      have hsm : q_sm (fun _ => 0) 0 = 0 := rfl
      have un : ∀ q, q < N' → q ≠ 6 → q ≠ N8 + 1 + 1 → G2 q = G' q := fun q hq h6 hL => (u2.2.1 q hq (fun z => by
        rcases z with z | z | z
        · exact h6 z
        · exact hL z
        · exact z.2 rfl)).trans (e6 q h6)
      obtain ⟨F1, k1, k2⟩ := d8
      obtain ⟨F2, k3, k4⟩ := d9
      refine ⟨by omega, ln2, at2, c1, ?_⟩
      have u4' : q_Li _ N2 G2 true (N8 + 1 + 1) (0 + m2) w3 := u4
      rw [Nat.zero_add] at u4'
      refine fin N2 G2 _ _ e2 m1 m2 w2 w3 ln2 at2 (hR6.tr u2 wtr) u3 c1 ((un N8 (by omega) (by omega) (by omega)).trans d6) (by omega) (k4.fr hN2 (fun q z => Or.inl ⟨(k3 q z).1, by have := (k3 q z).2; omega⟩) (fun q z => un q (by have := (k3 q z).2; omega) (by have := (k3 q z).1; omega) (by have := (k3 q z).2; omega))) (k2.fr hN2 (fun q z => ?_) (fun q z => ?_)) (u4'.mono (fun q z => ?_) (Nat.le_refl _)) (by omega) d12 (by omega) (d13 e2 m2 u1) (by omega) (by omega)
      · rcases (k1 q z).1 with y | y
        · exact Or.inl ⟨y.1, by have := y.2; omega⟩
        · exact Or.inr y
      · rcases (k1 q z).1 with y | y
        · exact un q y.2 (by have := y.1; omega) (k1 q z).2
        · exact un q (by omega) (by omega) (k1 q z).2
      · rcases z with z | z | z | z
        · exact z.elim
        · exact Or.inl ⟨by have := z.1; omega, z.2⟩
        · exact Or.inl ⟨by omega, by omega⟩
        · exact Or.inr z
    · obtain ⟨ln2, at2, c1, c2, c3, c4, c5, c6⟩ := id u3
      exact hK0 N2 G2 _ _ (d14 u1) (hR6.tr u2 wtr) ⟨e2, u3⟩ (by omega) (by omega)
  obtain ⟨ln1, at1, m1, m2, m3, m4, m5, m6⟩ := id hrH
  have ec : at1.toNatClampNeg = e := i32_cl m3
  have h1H : H 1 = aC 4 0 f1 := (g8 1 (by omega) (by decide)).trans h1
  have nilA : q_Li (q_f1 N (N8 + 1 + 1 + 1)) (N8 + 1 + 1 + 1) H false (N8 + 1) 0 0 := q_Li.nil (by omega) (by omega) (by omega) (Or.inl ⟨by omega, by omega⟩) (Or.inr rfl) n3 h1H
  have nilB : q_Li (q_f1 N (N8 + 1 + 1 + 1)) (N8 + 1 + 1 + 1) H true (N8 + 1 + 1) 0 0 := q_Li.nil (by omega) (by omega) (by omega) (Or.inl ⟨by omega, by omega⟩) (Or.inr rfl) n4 h1H
  have hpC1 : gC T n e ≠ 58 → pC T n = pE T n e := fun q => by
    rw [hpC, t1]
    exact if_neg q
  have plain : gC T n e ≠ 58 → gC T n e ≠ 124 → ((at1.toInt ≠ ln1.toInt → K (.inl (some .null)) (N8 + 1 + 1 + 1) H (kc8 + 3) (ks8 + 9)) ∧ (at1.toInt = ln1.toInt → K (.inl (some (.ref N8))) (N8 + 1 + 1 + 1) H (kc8 + 3) (ks8 + 9))) := fun q1 q2 => fin _ H _ _ e 0 0 0 0 ln1 at1 hRH hrH m1 n2 (by omega) hTH nilA nilB (by omega) (by omega) (by omega) (by rw [hpC1 q1]; unfold pE; rw [if_neg q2]) (by omega) (by omega)
  refine ⟨by omega, by omega, ln1, at1, m1, fun hge => ⟨fun _ => plain ?_ ?_, fun q => by omega⟩, fun hlt => ⟨by omega, T, m6, by omega, by omega, ?_⟩⟩
  · rw [gC_out (by omega)]
    omega
  · rw [gC_out (by omega)]
    omega
  rw [ec]
  have hge : gC T n e = (T e).toInt := gC_in (by omega)
  refine ⟨fun c58 => ?_, fun c58 => ⟨fun q => by omega, fun _ => ⟨by omega, by omega, fun c124 => ?_, fun c124 => plain (by omega) (by omega)⟩⟩⟩
  · have hnx := hrH.nx (by omega) m1
    have e6 : ∀ q, q ≠ 6 → (va_up H 6 (oC 1 [.ref 7, .int ln1, .int (at1 + 1)])) q = H q := fun q z => va_ne z
    have hR6 := hRH.a6 (c := oC 1 [.ref 7, .int ln1, .int (at1 + 1)]) m1
    generalize (va_up H 6 (oC 1 [.ref 7, .int ln1, .int (at1 + 1)])) = H6 at hnx e6 hR6 ⊢
    have wtr : ∀ q, q < N → q_wL (N8 + 1) 1 q → q_w6 q := fun q hq z => by
      rcases z with z | z | z
      · exact z
      · omega
      · exact absurd rfl z.2
    have hpC2 : pC T n = match pIs T n false 48 (e + 1) with
        | none => false
        | some r => pE T n r.1 := by
      rw [hpC, t1]
      exact if_pos (by omega)
    refine k_36_0 (j_items2 (b := false) (Or.inr ⟨rfl, by decide⟩) (by omega) 48 0 (e + 1) (N8 + 1 + 1 + 1) 0 1 0 H6 0 0 f1 (fun _ => 0) (fun _ => False) _ rfl (by decide) (by omega) hnx ⟨j, (hR6.2.1 4 (by omega) (fun z => by have : 4 = 6 := z; omega)).trans h4⟩ ((e6 _ (by omega)).trans n3) rfl (by omega) ((e6 1 (by decide)).trans h1H) (by omega) (by omega) (Or.inl ⟨rfl, rfl⟩) (by omega) (fun q z => z.elim) (fun i hi => by omega) (fun e2 k1 N2 G2 w2 kc ks nn1 u1 u2 u3 u4 u5 u6 u7 u8 u9 u10 => ⟨1, rfl, fun _ => ?_, fun q => absurd q (by decide)⟩) (fun e2 N2 G2 kc ks nn1 u1 u2 u3 u4 u5 u6 u7 => ⟨0, rfl, fun q => absurd rfl q, fun _ => ?_⟩))
    · obtain ⟨ln2, at2, c1, c2, c3, c4, c5, c6⟩ := id u3
      have hN2 := u2.1
      have hsm : q_sm (fun _ => 0) 0 = 0 := rfl
      have ec2 : at2.toNatClampNeg = e2 := i32_cl c3
      have un : ∀ q, q < N8 + 1 + 1 + 1 → q ≠ 6 → q ≠ N8 + 1 → G2 q = H q := fun q hq h6 hL => (u2.2.1 q hq (fun z => by
        rcases z with z | z | z
        · exact h6 z
        · exact hL z
        · exact z.2 rfl)).trans (e6 q h6)
      have hR2 := hR6.tr u2 wtr
      have u4' : q_Li _ N2 G2 false (N8 + 1) (0 + k1) w2 := u4
      rw [Nat.zero_add] at u4'
      have hpC3 : pC T n = pE T n e2 := by rw [hpC2, u1]
      have uN8 := (un N8 (by omega) (by omega) (by omega)).trans n2
      have uL2 := (un (N8 + 1 + 1) (by omega) (by omega) (by omega)).trans n4
      have hT2 : q_Tm (q_iv N N8) N2 G2 5 x9 w := t4.fr (by omega) (fun q z => z) (fun q z => (un q (by have := z.2; omega) (by have := z.1; omega) (by have := z.2; omega)).trans (n1 q z.2))
      have hT2' : q_Tm (q_f1 N N2) N2 G2 5 x9 w := hT2.fr (Nat.le_refl _) (fun q z => Or.inl ⟨z.1, by have := z.2; omega⟩) (fun _ _ => rfl)
      have h12 : G2 1 = aC 4 0 f1 := (un 1 (by omega) (by decide) (by omega)).trans h1H
      have nilB2 : q_Li (q_f1 N N2) N2 G2 true (N8 + 1 + 1) 0 0 := q_Li.nil (by omega) (by omega) (by omega) (Or.inl ⟨by omega, by omega⟩) (Or.inr rfl) uL2 h12
      have u4F : ∀ q, (False ∨ q_iv (N8 + 1 + 1 + 1) N2 q ∨ q = N8 + 1 ∨ q = 1) → (q_iv N N2 q ∨ q = 1) ∧ q ≠ N8 + 1 + 1 := by
        intro q z
        rcases z with z | z | z | z
        · exact z.elim
        · exact ⟨Or.inl ⟨by have := z.1; omega, z.2⟩, by have := z.1; omega⟩
        · exact ⟨Or.inl ⟨by omega, by omega⟩, by omega⟩
        · exact ⟨Or.inr z, by omega⟩
      have plain2 : gC T n e2 ≠ 124 → ((at2.toInt ≠ ln2.toInt → K (.inl (some .null)) N2 G2 (kc8 + kc + 3) (ks8 + ks + 9)) ∧ (at2.toInt = ln2.toInt → K (.inl (some (.ref N8))) N2 G2 (kc8 + kc + 3) (ks8 + ks + 9))) := fun q2 => fin N2 G2 _ _ e2 k1 0 w2 0 ln2 at2 hR2 u3 c1 uN8 (by omega) hT2' (u4'.mono (fun q z => (u4F q z).1) (Nat.le_refl _)) nilB2 (by omega) (by omega) (by omega) (by rw [hpC3]; unfold pE; rw [if_neg q2]) (by omega) (by omega)
      refine ⟨by omega, ln2, at2, c1, fun hge2 => plain2 ?_, fun hlt2 => ⟨by omega, T, c6, by omega, by omega, ?_⟩⟩
      · rw [gC_out (by omega)]
        omega
      rw [ec2]
      have hg2 : gC T n e2 = (T e2).toInt := gC_in (by omega)
      refine ⟨fun c124 => ⟨by omega, by omega, x9, N8 + 1, N8 + 1 + 1, (va_ne (by omega)).trans uN8, ?_⟩, fun c124 => plain2 (by omega)⟩
      refine goals N2 G2 (kc8 + kc) (ks8 + ks) e2 k1 w2 ln2 at2 hR2 (by omega) u3 c1 (by omega) uN8 hT2' ⟨_, u4F, u4'⟩ ⟨_, fun q z => z, hT2⟩ uL2 (by omega) (by omega) (fun e3 m3 q => ?_) (fun q => ?_) (by omega) (by omega)
      · rw [hpC3]
        unfold pE
        rw [if_pos (by omega), q]
      · rw [hpC3]
        unfold pE
        rw [if_pos (by omega), q]
    · obtain ⟨ln2, at2, c1, c2, c3, c4, c5, c6⟩ := id u3
      exact hK0 N2 G2 _ _ (by rw [hpC2, u1]) (hR6.tr u2 wtr) ⟨e2, u3⟩ (by omega) (by omega)
  · refine goals (N8 + 1 + 1 + 1) H kc8 ks8 e 0 0 ln1 at1 hRH (by omega) hrH m1 (by omega) n2 hTH ⟨fun q => q = N8 + 1 ∨ q = 1, fun q z => ?_, q_Li.nil (by omega) (by omega) (by omega) (Or.inl rfl) (Or.inr rfl) n3 h1H⟩ ⟨q_iv N N8, fun q z => z, t4.fr (by omega) (fun q z => z) (fun q z => n1 q z.2)⟩ n4 (by omega) (by omega) (fun e3 m3 q => ?_) (fun q => ?_) (by omega) (by omega)
    · rcases z with z | z
      · exact ⟨Or.inl ⟨by omega, by omega⟩, by omega⟩
      · exact ⟨Or.inr z, by omega⟩
    · rw [hpC1 (by omega)]
      unfold pE
      rw [if_pos (by omega), q]
    · rw [hpC1 (by omega)]
      unfold pE
      rw [if_pos (by omega), q]
end QCl
