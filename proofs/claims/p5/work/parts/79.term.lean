/-! Reader.readTerm, readParts -/
def q_PT (T : Nat → Int32) (n r : Nat) : Prop := ∀ (p N : Nat) (G : Nat → sx_C) (p1 : Int32) (K : Option Value ⊕ Nat → Nat → (Nat → sx_C) → Nat → Nat → Prop), 64 < N → q_rd G T n p → p1.toInt + (r : Int) = 6 →
  (∀ e N1 G1 y w kc ks k v s cp, pT T n r p = some e → q_RX q_w6 N G N1 G1 → q_rd G1 T n e → q_Tm (fun q => N ≤ q ∧ q < N1) N1 G1 r y w → G1 y = oC 7 [.int k, .int v, .ref (y + 1), .int s, .int cp] → k.toInt = gK (gC T n p) → p < e → w + p ≤ e → kc + 2 * p ≤ 2 * e → ks + 8 * p ≤ 8 * e → K (.inl (some (.ref y))) N1 G1 kc ks) →
  (∀ e N1 G1 kc ks, pT T n r p = none → q_RX q_w6 N G N1 G1 → q_rd G1 T n e → p ≤ e → kc + 2 * p ≤ 2 * e → ks + 8 * p ≤ 8 * e → K (.inl (some .null)) N1 G1 kc ks) → cT (5 * r) sM_28 0 [(0, .ref 6), (1, .int p1)] [] N G K
def q_w3 (y p : Nat) : Prop := p = 6 ∨ p = y ∨ p = y + 1
section QTm
variable {T : Nat → Int32} {N n p y r : Nat} {G : Nat → sx_C} {F : Nat → Prop}
theorem j_tmF {w : Nat} (h : q_Tm F N G r p w) : F p ∧ F (p + 1) := by
  cases r with
  | zero => exact h.elim
  | succ r => exact ⟨h.2.2.1, h.2.2.2.1⟩
theorem q_sm_up {ws : Nat → Nat} {i w : Nat} : ∀ k, k ≤ i → q_sm (va_up ws i w) k = q_sm ws k := by
  intro k
  induction k with
  | zero =>
    intro _
    rfl
  | succ k ih =>
    intro h
    show q_sm (va_up ws i w) k + va_up ws i w k = q_sm ws k + ws k
    rw [ih (by omega), va_ne (by omega)]
theorem q_sm_up1 {ws : Nat → Nat} {i w : Nat} : q_sm (va_up ws i w) (i + 1) = q_sm ws i + w := by
  show q_sm (va_up ws i w) i + va_up ws i w i = _
  rw [q_sm_up i (Nat.le_refl i), up_eq]
set_option maxHeartbeats 4000000 in
theorem j_parts2 {v p2 : Int32} {p0 : Nat} (ih : q_PT T n r) (h5 : 64 < y) (hv : 0 ≤ v.toInt ∧ v.toInt ≤ 255) (hr : p2.toInt + (r : Int) = 6) : ∀ (j i p N : Nat) (G : Nat → sx_C) (p3 s cp : Int32) (f : Nat → Option Nat) (ws : Nat → Nat) (K : Option Value ⊕ Nat → Nat → (Nat → sx_C) → Nat → Nat → Prop), i + j = 3 → 1 ≤ j → p3.toInt = (i : Int) + 1 → y + 1 < N → q_rd G T n p → G y = oC 7 [.int 2, .int v, .ref (y + 1), .int s, .int cp] → s.toInt = (i : Int) → G (y + 1) = aC 8 3 f → (∀ a, a < i → ∃ q, f a = some q ∧ q_Tm (fun q => y + 1 < q ∧ q < N) N G r q (ws a)) → 1 + q_sm ws i + p0 ≤ p →
    (∀ e N1 G1 w kc ks s' cp', pP T n r j p = some e → q_RX (q_w3 y) N G N1 G1 → q_rd G1 T n e → q_Tm (fun q => y ≤ q ∧ q < N1) N1 G1 (r + 1) y w → G1 y = oC 7 [.int 2, .int v, .ref (y + 1), .int s', .int cp'] → w + p0 ≤ e → p ≤ e → kc + 2 * p ≤ 2 * e → ks + 8 * p ≤ 8 * e → K (.inl (some (.int 1))) N1 G1 kc ks) →
    (∀ e N1 G1 kc ks, pP T n r j p = none → q_RX (q_w3 y) N G N1 G1 → q_rd G1 T n e → p ≤ e → kc + 2 * p ≤ 2 * e → ks + 8 * p ≤ 8 * e → K (.inl (some (.int 0))) N1 G1 kc ks) → cT (5 * r + 2) sM_33 2 [(0, .ref 6), (1, .ref y), (2, .int p2), (3, .int p3)] [] N G K := by
  intro j
  induction j with
  | zero =>
    intro i p N G p3 s cp f ws K h1 h2
    omega
  | succ j ihj =>
    intro i p N G p3 s cp f ws K hij hj hp3 hN hrd ey hs ea hparts hw hK1 hK0
    obtain ⟨ln, at_, g1, g2, g3, g4, g5, g6⟩ := id hrd
    have w63 : ∀ q, q < N → q_w6 q → q_w3 y q := fun q _ z => Or.inl z
    refine k_33_2 ⟨fun q => by omega, fun _ => ⟨by omega, ln, at_, g1, ih p N G p2 _ (by omega) hrd hr (fun e N1 G1 y' w kc ks k v' s' cp' t1 t2 t3 t4 t5 t6 t7 t8 t9 t10 => ⟨some y', rfl, fun q => (by cases q), fun x4 ex => ?_⟩) (fun e N1 G1 kc ks t1 t2 t3 t4 t5 t6 => ⟨none, rfl, fun _ => hK0 e N1 G1 kc ks ?_ (q_RX.rfl'.tr t2 w63) t3 t4 t5 t6, fun x4 ex => (by cases ex)⟩)⟩⟩
    · cases ex
      obtain ⟨fy1, fy2⟩ := j_tmF t4
      have hN1 := t2.1
      have ey1 : G1 y = _ := (t2.2.1 y (by omega) (fun z => by have : y = 6 := z; omega)).trans ey
      have ea1 : G1 (y + 1) = _ := (t2.2.1 (y + 1) (by omega) (fun z => by have : y + 1 = 6 := z; omega)).trans ea
      obtain ⟨a1, a2, -⟩ := j_tm t4
      have esc : s.toNatClampNeg = i := i32_cl hs
      have es1 : (s + 1).toInt = ((i + 1 : Nat) : Int) := by
        rw [i32_succ (by omega) (by omega), hs]
        omega
      have t3i : (Int32.ofNat 3).toInt = 3 := rfl
      have hH : ∀ q, q ≠ y → q ≠ y + 1 → (va_up (va_up G1 (y + 1) (aC 8 3 (va_up f i (some y')))) y (oC 7 [.int 2, .int v, .ref (y + 1), .int (s + 1), .int (cp ||| cp')])) q = G1 q := fun q q1 q2 => (va_ne q1).trans (va_ne q2)
      have hH1 : ∀ q, q ≠ y → q ≠ y + 1 → (va_up (va_up G1 (y + 1) (aC 8 3 (va_up f i (some y')))) y (oC 7 [.int 2, .int v, .ref (y + 1), .int (s + 1), .int cp])) q = G1 q := fun q q1 q2 => (va_ne q1).trans (va_ne q2)
      have hHy : (va_up (va_up G1 (y + 1) (aC 8 3 (va_up f i (some y')))) y (oC 7 [.int 2, .int v, .ref (y + 1), .int (s + 1), .int (cp ||| cp')])) y = oC 7 [.int 2, .int v, .ref (y + 1), .int (s + 1), .int (cp ||| cp')] := up_eq
      have hHa : (va_up (va_up G1 (y + 1) (aC 8 3 (va_up f i (some y')))) y (oC 7 [.int 2, .int v, .ref (y + 1), .int (s + 1), .int (cp ||| cp')])) (y + 1) = aC 8 3 (va_up f i (some y')) := (va_ne (by omega)).trans up_eq
      have hRH : q_RX (q_w3 y) N G N1 (va_up (va_up G1 (y + 1) (aC 8 3 (va_up f i (some y')))) y (oC 7 [.int 2, .int v, .ref (y + 1), .int (s + 1), .int (cp ||| cp')])) := ((q_RX.rfl'.tr t2 w63).tr (q_RX.up (W := q_w3 y) (fun _ => Or.inr ⟨8, _, _, rfl, Or.inl rfl⟩) (Or.inr (Or.inr rfl))) (fun _ _ z => z)).tr (q_RX.up (W := q_w3 y) (fun _ => Or.inl ⟨7, _, rfl, Or.inl rfl⟩) (Or.inr (Or.inl rfl))) (fun _ _ z => z)
      have hx4 : (va_up (va_up G1 (y + 1) (aC 8 3 (va_up f i (some y')))) y (oC 7 [.int 2, .int v, .ref (y + 1), .int (s + 1), .int cp])) y' = oC 7 [.int k, .int v', .ref (y' + 1), .int s', .int cp'] := (hH1 y' (by omega) (by omega)).trans t5
      refine ⟨by omega, by omega, 2, v, s, cp, ey1, by omega, by omega, 3, f, ea1, fun q => by omega, fun _ => ?_⟩
      rw [esc]
      refine ⟨by omega, by omega, a1, a2, k, v', s', cp', t5, a1, a2, k, v', s', cp', hx4, by omega, ?_⟩
      generalize (va_up (va_up G1 (y + 1) (aC 8 3 (va_up f i (some y')))) y (oC 7 [.int 2, .int v, .ref (y + 1), .int (s + 1), .int (cp ||| cp')])) = H at hH hHy hHa hRH ⊢
      have hrH : q_rd H T n e := t3.fr (hH 6 (by omega) (by omega)) (hH 7 (by omega) (by omega))
      obtain ⟨ln1, at1, m1, m2, m3, m4, m5, m6⟩ := id hrH
      have ec : at1.toNatClampNeg = e := i32_cl m3
      have hparts' : ∀ a, a < i + 1 → ∃ q, (va_up f i (some y')) a = some q ∧ q_Tm (fun q => y + 1 < q ∧ q < N1) N1 H r q (va_up ws i w a) := by
        intro a ha
        by_cases q : a = i
        · rw [q]
          refine ⟨y', up_eq, ?_⟩
          rw [up_eq]
          exact t4.fr (Nat.le_refl N1) (fun q z => ⟨by omega, z.2⟩) (fun q z => hH q (by omega) (by omega))
        · obtain ⟨z, z1, z2⟩ := hparts a (by omega)
          refine ⟨z, (va_ne q).trans z1, ?_⟩
          rw [va_ne q]
          exact z2.fr hN1 (fun q z => ⟨z.1, by omega⟩) (fun q z => (hH q (by omega) (by omega)).trans (t2.2.1 q z.2 (fun y6 => by have : q = 6 := y6; omega)))
      have hsum : q_sm (va_up ws i w) (i + 1) = q_sm ws i + w := q_sm_up1
      have hpP : pP T n r (j + 1) p = if gC T n e = 41 then some (e + 1) else if j ≠ 0 ∧ gC T n e = 44 then pP T n r j (e + 1) else none := by
        show (match pT T n r p with
          | none => none
          | some q => if gC T n q = 41 then some (q + 1) else if j ≠ 0 ∧ gC T n q = 44 then pP T n r j (q + 1) else none) = _
        rw [t1]
      have bad : (gC T n e = 41 → False) → (j ≠ 0 → gC T n e = 44 → False) → K (.inl (some (.int 0))) N1 H kc ks := fun b1 b2 => hK0 e N1 H kc ks (by rw [hpP, if_neg b1, if_neg (fun z => b2 z.1 z.2)]) hRH hrH (by omega) (by omega) (by omega)
      refine ⟨ln1, at1, m1, fun hge => ?_, fun hlt => ⟨by omega, T, m6, by omega, by omega, ?_⟩⟩
      · have hg : gC T n e = 0 := gC_out (by omega)
        exact ⟨fun _ => bad (fun q => by omega) (fun _ q => by omega), fun _ => ⟨fun _ => bad (fun q => by omega) (fun _ q => by omega), fun q => by omega⟩⟩
      · have hg : gC T n e = (T e).toInt := gC_in (by omega)
        rw [ec]
        have hnx := hrH.nx (by omega) m1
        have hR6 : q_RX (q_w3 y) N G N1 (va_up H 6 (oC 1 [.ref 7, .int ln1, .int (at1 + 1)])) := hRH.tr (q_RX.up (W := q_w3 y) (fun q => by
          rw [m1] at q
          rcases q with ⟨ci, gs, z, z2⟩ | ⟨t, m, f, z, -⟩
          · have := (oC_inj z).1
            omega
          · exact (oa_ne z).elim) (Or.inl rfl)) (fun _ _ z => z)
        have e6 : ∀ q, q ≠ 6 → (va_up H 6 (oC 1 [.ref 7, .int ln1, .int (at1 + 1)])) q = H q := fun q z => va_ne z
        refine ⟨fun c41 => ?_, fun c41 => ⟨fun h3 => bad (fun q => by omega) (fun q => by omega), fun h3 => ⟨fun q => by omega, fun _ => ⟨by omega, by omega, fun c44 => ?_, fun c44 => bad (fun q => by omega) (fun _ q => by omega)⟩⟩⟩⟩
        · refine hK1 (e + 1) N1 _ (1 + q_sm (va_up ws i w) (i + 1)) kc ks (s + 1) (cp ||| cp') (by rw [hpP, if_pos (by omega)]) hR6 hnx ⟨by omega, by omega, ⟨by omega, by omega⟩, ⟨by omega, by omega⟩, 2, v, s + 1, cp ||| cp', 3, i + 1, va_up f i (some y'), va_up ws i w, (e6 y (by omega)).trans hHy, (e6 (y + 1) (by omega)).trans hHa, es1, by omega, by omega, ⟨fun q => absurd q (by decide), fun _ _ => hv⟩, fun a ha => ?_, Nat.le_refl _⟩ ((e6 y (by omega)).trans hHy) (by omega) (by omega) (by omega) (by omega)
          obtain ⟨z, z1, z2⟩ := hparts' a ha
          exact ⟨z, z1, z2.fr (Nat.le_refl N1) (fun q z => ⟨by omega, z.2⟩) (fun q z => e6 q (by omega))⟩
        · have hj0 : j ≠ 0 := by omega
          have hpP2 : pP T n r (j + 1) p = pP T n r j (e + 1) := by rw [hpP, if_neg (by omega), if_pos ⟨hj0, by omega⟩]
          refine ihj (i + 1) (e + 1) N1 _ (p3 + 1) (s + 1) (cp ||| cp') (va_up f i (some y')) (va_up ws i w) _ (by omega) (by omega) (by rw [i32_succ (by omega) (by omega), hp3]; omega) (by omega) hnx ((e6 y (by omega)).trans hHy) es1 ((e6 (y + 1) (by omega)).trans hHa) (fun a ha => ?_) (by omega) (fun e' N2 G2 w' kc' ks' s'' cp'' u1 u2 u3 u4 u5 u6 u7 u8 u9 => hK1 e' N2 G2 w' (kc + kc') (ks + ks') s'' cp'' (hpP2.trans u1) (hR6.tr u2 (fun _ _ z => z)) u3 u4 u5 u6 (by omega) (by omega) (by omega)) (fun e' N2 G2 kc' ks' u1 u2 u3 u4 u5 u6 => hK0 e' N2 G2 (kc + kc') (ks + ks') (hpP2.trans u1) (hR6.tr u2 (fun _ _ z => z)) u3 (by omega) (by omega) (by omega))
          obtain ⟨z, z1, z2⟩ := hparts' a ha
          exact ⟨z, z1, z2.fr (Nat.le_refl N1) (fun q z => z) (fun q z => e6 q (by omega))⟩
    · show (match pT T n r p with
        | none => none
        | some q => if gC T n q = 41 then some (q + 1) else if j ≠ 0 ∧ gC T n q = 44 then pP T n r j (q + 1) else none) = _
      rw [t1]
set_option maxHeartbeats 4000000 in
theorem j_termS (r : Nat) (ih : 1 ≤ r → q_PT T n r) : q_PT T n (r + 1) := by
  intro p N G p1 K h64 hrd hp1 hK1 hK0
  obtain ⟨ln, at_, g1, g2, g3, g4, g5, g6⟩ := id hrd
  have ec : at_.toNatClampNeg = p := i32_cl g3
  have hpT := pT_P (T := T) (n := n) r p
  have nul : pT T n (r + 1) p = none → K (.inl (some .null)) N G 0 0 := fun q => hK0 p N G 0 0 q q_RX.rfl' hrd (by omega) (by omega) (by omega)
  show cT (5 * r + 2 + 3) sM_28 0 _ _ _ _ _
  refine k_28_0 ⟨by omega, ln, at_, g1, fun hge => ?_, fun hlt => ⟨by omega, T, g6, by omega, by omega, ?_⟩⟩
  · have hg : gC T n p = 0 := gC_out (by omega)
    exact nul (by rw [hpT, if_neg (by omega), if_neg (by omega), if_neg (by omega)])
  rw [ec]
  have hg : gC T n p = (T p).toInt := gC_in (by omega)
  have e1 : (at_ + 1).toInt = ((p + 1 : Nat) : Int) := by
    rw [i32_succ (by omega) (by omega), g3]
    omega
  have num : 48 ≤ (T p).toInt → (T p).toInt ≤ 57 → cT 2 sM_31 0 [(0, .ref 6)] [] N G (fun r68 N68 G68 kc68 ks68 => ∃ o68 : Option Nat, r68 = .inl (some (va_rf o68)) ∧ K (.inl (some (va_rf o68))) (N68) G68 (kc68) (ks68)) := fun c1 c2 => by
    refine j_num (r := r) h64 hrd (by omega) (fun N1 G1 e y v cp kc ks he t2 t3 t4 t5 t6 t7 => ⟨some y, rfl, ?_⟩)
    have hpe : pT T n (r + 1) p = some e := by
      rw [hpT, if_neg (by omega), if_pos (by omega), he]
      split <;> rfl
    have hle : p + 1 ≤ e := by
      rw [he]
      split <;> omega
    exact hK1 e N1 G1 y 1 kc ks 1 v 0 cp hpe t2 t3 t4 t5 (by rw [hg]; unfold gK; rw [if_neg (by omega), if_pos (by omega)]; rfl) (by omega) (by omega) (by omega) (by omega)
  have let_ : 97 ≤ (T p).toInt → (T p).toInt ≤ 122 → 5 ≤ N ∧ cT (5 * r + 2 + 3) sM_28 81 [(0, .ref 6), (1, .int p1), (3, .ref N)] [] (N + 1 + 1) (va_up (va_up (va_up (va_up (va_up G 6 (oC 1 [.ref 7, .int ln, .int (at_ + 1)])) N (oC 7 [.int 0, .int 0, .null, .int 0, .int 0])) N (oC 7 [.int 2, .int (T p), .null, .int 0, .int 0])) (N + 1) (aC 8 3 (fun _ => none))) N (oC 7 [.int 2, .int (T p), .ref (N + 1), .int 0, .int 0])) (fun r N1 G1 kc1 ks1 => K r N1 G1 (kc1 + 2) (ks1 + 8)) := fun c1 c2 => by
    obtain ⟨n1, n2, n3, n4⟩ := q_new5 (G := G) (N := N) (a := oC 1 [.ref 7, .int ln, .int (at_ + 1)]) (c1 := oC 7 [.int 0, .int 0, .null, .int 0, .int 0]) (c2 := oC 7 [.int 2, .int (T p), .null, .int 0, .int 0]) (c3 := aC 8 3 (fun _ => none)) (c4 := oC 7 [.int 2, .int (T p), .ref (N + 1), .int 0, .int 0]) (by omega)
    generalize (va_up (va_up (va_up (va_up (va_up G 6 (oC 1 [.ref 7, .int ln, .int (at_ + 1)])) N (oC 7 [.int 0, .int 0, .null, .int 0, .int 0])) N (oC 7 [.int 2, .int (T p), .null, .int 0, .int 0])) (N + 1) (aC 8 3 (fun _ => none))) N (oC 7 [.int 2, .int (T p), .ref (N + 1), .int 0, .int 0])) = G' at n1 n2 n3 n4 ⊢
    have hR := q_newR (by omega) n1 n3 n4 ⟨_, n2⟩ ⟨_, g1⟩
    have hrd' : q_rd G' T n (p + 1) := ⟨ln, at_ + 1, n2, g2, e1, by omega, g5, (n1 7 (by omega) (by decide)).trans g6⟩
    have hkk : (2 : Int32).toInt = gK (gC T n p) := by
      rw [hg]
      unfold gK
      rw [if_neg (by omega), if_neg (by omega)]
      rfl
    have hv : 0 ≤ (T p).toInt ∧ (T p).toInt ≤ 255 := ⟨by omega, by omega⟩
    have leaf : ¬ (1 ≤ r ∧ gC T n (p + 1) = 40) → K (.inl (some (.ref N))) (N + 1 + 1) G' (0 + 2) (0 + 8) := fun q => hK1 (p + 1) _ G' N 1 _ _ 2 (T p) 0 0 (by rw [hpT, if_neg (by omega), if_neg (by omega), if_pos (by omega), if_neg q]) hR hrd' (q_Tm0 (by omega) (by omega) ⟨by omega, by omega⟩ ⟨by omega, by omega⟩ n3 n4 ⟨fun q => absurd q (by decide), fun _ _ => hv⟩) n3 hkk (by omega) (by omega) (by omega) (by omega)
    refine ⟨by omega, k_28_81 ⟨fun h5 => leaf (by omega), fun h5 => ⟨by omega, ln, at_ + 1, n2, fun hge => leaf (fun q => ?_), fun hlt1 => ⟨by omega, T, (n1 7 (by omega) (by decide)).trans g6, by omega, by omega, fun c40 => ?_, fun c40 => leaf (fun q => ?_)⟩⟩⟩⟩
    · have : gC T n (p + 1) = 0 := gC_out (by omega)
      omega
    · rw [i32_cl e1] at c40
      have hg1 : gC T n (p + 1) = (T (p + 1)).toInt := gC_in (by omega)
      have hpT2 : pT T n (r + 1) p = pP T n r 3 (p + 2) := by rw [hpT, if_neg (by omega), if_neg (by omega), if_pos (by omega), if_pos (by omega)]
      have hnx := hrd'.nx (by omega) n2
      have e6 : ∀ q, q ≠ 6 → (va_up G' 6 (oC 1 [.ref 7, .int ln, .int (at_ + 1 + 1)])) q = G' q := fun q z => va_ne z
      have hR6 : q_RX q_w6 N G (N + 1 + 1) (va_up G' 6 (oC 1 [.ref 7, .int ln, .int (at_ + 1 + 1)])) := hR.tr (q_RX.up (W := q_w6) (fun q => by
          rw [n2] at q
          rcases q with ⟨ci, gs, z, z2⟩ | ⟨t, m, f, z, -⟩
          · have := (oC_inj z).1
            omega
          · exact (oa_ne z).elim) rfl) (fun _ _ z => z)
      have w36 : ∀ q, q < N → q_w3 N q → q_w6 q := fun q hq z => by
        rcases z with z | z | z
        · exact z
        · omega
        · omega
      have ed : (p1 + 1).toInt = p1.toInt + 1 := i32_add rfl (by have q : -2147483648 ≤ p1.toInt := Int32.le_toInt p1; omega) (by omega)
      refine k_33_0 (j_parts2 (v := T p) (p0 := p) (ih (by omega)) (by omega) hv (by omega) 3 0 (p + 2) (N + 1 + 1) _ 1 0 0 (fun _ => none) (fun _ => 0) _ (by omega) (by omega) rfl (by omega) hnx ((e6 N (by omega)).trans n3) rfl ((e6 (N + 1) (by omega)).trans n4) (fun a ha => by omega) (by show 1 + 0 + p ≤ p + 2; omega) (fun e N1 G1 w kc ks s' cp' u1 u2 u3 u4 u5 u6 u7 u8 u9 => ⟨1, rfl, fun _ => ?_, fun q => absurd q (by decide)⟩) (fun e N1 G1 kc ks u1 u2 u3 u4 u5 u6 => ⟨0, rfl, fun q => absurd rfl q, fun _ => ?_⟩))
      · exact hK1 e N1 G1 N w _ _ 2 (T p) s' cp' (hpT2.trans u1) (hR6.tr u2 w36) u3 u4 u5 hkk (by omega) u6 (by omega) (by omega)
      · exact hK0 e N1 G1 _ _ (hpT2.trans u1) (hR6.tr u2 w36) u3 (by omega) (by omega) (by omega)
    · rw [i32_cl e1] at c40
      have hg1 : gC T n (p + 1) = (T (p + 1)).toInt := gC_in (by omega)
      omega
  refine ⟨fun c65 => ⟨fun c48 => ⟨fun _ => nul ?_, fun q => by omega⟩, fun c48 => ⟨fun c57 => ⟨fun _ => nul ?_, fun q => by omega⟩, fun c57 => num c48 c57⟩⟩, fun c65 => ⟨fun c90 => ⟨fun q => by omega, fun c48 => ⟨fun c57 => ⟨fun c97 => nul ?_, fun c97 => ⟨fun c122 => nul ?_, fun c122 => let_ c97 c122⟩⟩, fun q => by omega⟩⟩, fun c90 => ?_⟩⟩
  · rw [hpT, if_neg (by omega), if_neg (by omega), if_neg (by omega)]
  · rw [hpT, if_neg (by omega), if_neg (by omega), if_neg (by omega)]
  · rw [hpT, if_neg (by omega), if_neg (by omega), if_neg (by omega)]
  · rw [hpT, if_neg (by omega), if_neg (by omega), if_neg (by omega)]
  · obtain ⟨n1, n2, n3, n4⟩ := q_new5 (G := G) (N := N) (a := oC 1 [.ref 7, .int ln, .int (at_ + 1)]) (c1 := oC 7 [.int 0, .int 0, .null, .int 0, .int 0]) (c2 := oC 7 [.int 0, .int (T p - 65), .null, .int 0, .int 0]) (c3 := aC 8 0 (fun _ => none)) (c4 := oC 7 [.int 0, .int (T p - 65), .ref (N + 1), .int 0, .int (c_shl 1 (T p - 65))]) (by omega)
    have t65 : (65 : Int32).toInt = 65 := rfl
    have ev : (T p - 65).toInt = (T p).toInt - 65 := i32_sub (by rw [t65]) (by omega) (by omega)
    exact ⟨by omega, hK1 (p + 1) _ _ N 1 2 5 0 (T p - 65) 0 (c_shl 1 (T p - 65)) (by rw [hpT, if_pos (by omega)]) (q_newR (by omega) n1 n3 n4 ⟨_, n2⟩ ⟨_, g1⟩) ⟨ln, at_ + 1, n2, g2, e1, by omega, g5, (n1 7 (by omega) (by decide)).trans g6⟩ (q_Tm0 (by omega) (by omega) ⟨by omega, by omega⟩ ⟨by omega, by omega⟩ n3 n4 ⟨fun _ => ⟨by omega, by omega⟩, fun q => absurd rfl q⟩) n3 (by rw [hg]; unfold gK; rw [if_pos (by omega)]; rfl) (by omega) (by omega) (by omega) (by omega)⟩
theorem j_term : ∀ r, q_PT T n (r + 1) := by
  intro r
  induction r with
  | zero => exact j_termS 0 (fun q => by omega)
  | succ r ih => exact j_termS (r + 1) (fun _ => ih)
end QTm
