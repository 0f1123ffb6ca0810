/-! Reader.readItems -/
def pI (T : Nat → Int32) (n : Nat) (b : Bool) (p : Nat) : Option Nat := if b = true then pG T n p else pU T n p
def pIs (T : Nat → Int32) (n : Nat) (b : Bool) : Nat → Nat → Option (Nat × Nat)
  | 0, _ => none
  | k + 1, p => match pI T n b p with
    | none => none
    | some e => if gC T n e = 44 then (match pIs T n b k (e + 1) with
      | none => none
      | some q => some (q.1, q.2 + 1)) else some (e, 1)
def q_wL (L a q : Nat) : Prop := q = 6 ∨ q = L ∨ (q = a ∧ a ≠ 1)
section QIs
variable {T : Nat → Int32} {n L : Nat} {b : Bool}
theorem q_Li.mono {F F1 : Nat → Prop} {N p m w w1 : Nat} {G : Nat → sx_C} (h : q_Li F N G b p m w) (hF : ∀ q, F q → F1 q) (hw : w ≤ w1) : q_Li F1 N G b p m w1 := by
  obtain ⟨h1, h2, h3, a, n, sz, mc, f, ws, e1, e2, e3, e4, e5, e6, e7, e8⟩ := h.fr (Nat.le_refl N) hF (fun _ _ => rfl)
  exact ⟨h1, h2, h3, a, n, sz, mc, f, ws, e1, e2, e3, e4, e5, e6, e7, Nat.le_trans e8 hw⟩
set_option maxHeartbeats 4000000 in
theorem j_items2 {p2 : Int32} (hb : (b = true ∧ p2.toInt = 0) ∨ (b = false ∧ p2.toInt ≠ 0)) (hL : 64 < L) : ∀ (fuel : Nat) (p3 : Int32) (p N m a nn : Nat) (G : Nat → sx_C) (sz mc : Int32) (f : Nat → Option Nat) (ws : Nat → Nat) (F : Nat → Prop) (K : Option Value ⊕ Nat → Nat → (Nat → sx_C) → Nat → Nat → Prop), p3.toInt + (fuel : Int) = 48 → 0 ≤ p3.toInt → L < N → q_rd G T n p → (∃ j : Nat, G 4 = .inr (.inr j)) → G L = oC 13 [.ref a, .int sz, .int mc] → sz.toInt = (m : Int) → a < N → G a = aC 4 nn f → m ≤ nn → nn ≤ 2 * m + 10 → ((a = 1 ∧ nn = 0) ∨ (64 < a ∧ 10 ≤ nn)) → m ≤ p → (∀ q, F q → q < N ∧ q ≠ 6 ∧ q ≠ L ∧ q ≠ a) → (∀ i, i < m → ∃ q, f i = some q ∧ q_It F N G b q (ws i)) →
    (∀ e m1 N1 G1 w kc ks nn1, pIs T n b fuel p = some (e, m1) → q_RX (q_wL L a) N G N1 G1 → q_rd G1 T n e → q_Li (fun q => F q ∨ q_iv N N1 q ∨ q = L ∨ q = a) N1 G1 b L (m + m1) w → w + p ≤ e + q_sm ws m → p + m1 ≤ e → nn ≤ nn1 → nn1 ≤ 110 → kc + 3 * p + nn ≤ 3 * e + nn1 → ks + 13 * p + 8 * nn ≤ 13 * e + 8 * nn1 → K (.inl (some (.int 1))) N1 G1 kc ks) →
    (∀ e N1 G1 kc ks nn1, pIs T n b fuel p = none → q_RX (q_wL L a) N G N1 G1 → q_rd G1 T n e → p ≤ e → nn1 ≤ 110 → kc + 3 * p + nn ≤ 3 * e + nn1 → ks + 13 * p + 8 * nn ≤ 13 * e + 8 * nn1 → K (.inl (some (.int 0))) N1 G1 kc ks) → cT 63 sM_36 2 [(0, .ref 6), (1, .ref L), (2, .int p2), (3, .int p3)] [] N G K := by
  intro fuel
  induction fuel with
  | zero =>
    intro p3 p N m a nn G sz mc f ws F K h3 h30 hLN hrd hmi eL hsz haN ea hmn hnn hca hmp hF hit hK1 hK0
    have hpn : p ≤ 48 := by
      obtain ⟨ln, at_, g1, g2, g3, g4, g5, g6⟩ := hrd
      omega
    exact k_36_2 ⟨fun _ => hK0 p N G 0 0 nn rfl q_RX.rfl' hrd (by omega) (by omega) (by omega) (by omega), fun q => by omega⟩
  | succ fuel ih =>
    intro p3 p N m a nn G sz mc f ws F K h3 h30 hLN hrd hmi eL hsz haN ea hmn hnn hca hmp hF hit hK1 hK0
    have hpn : p ≤ 48 := by
      obtain ⟨ln, at_, g1, g2, g3, g4, g5, g6⟩ := hrd
      omega
    obtain ⟨ln, at_, g1, g2, g3, g4, g5, g6⟩ := id hrd
    have w6L : ∀ q, q < N → q_w6 q → q_wL L a q := fun q _ z => Or.inl z
    have hIs : pIs T n b (fuel + 1) p = match pI T n b p with
      | none => none
      | some e => if gC T n e = 44 then (match pIs T n b fuel (e + 1) with
        | none => none
        | some q => some (q.1, q.2 + 1)) else some (e, 1) := rfl
    have none0 : ∀ (e N1 : Nat) (G1 : Nat → sx_C) (kc ks : Nat), pI T n b p = none → q_RX q_w6 N G N1 G1 → q_rd G1 T n e → p ≤ e → kc + 2 * p ≤ 2 * e → ks + 8 * p ≤ 8 * e → K (.inl (some (.int 0))) N1 G1 kc ks := fun e N1 G1 kc ks u1 u2 u3 u4 u5 u6 => hK0 e N1 G1 kc ks nn (by rw [hIs, u1]) (q_RX.rfl'.tr u2 w6L) u3 u4 (by omega) (by omega) (by omega)
    have step : ∀ (e N1 : Nat) (G1 : Nat → sx_C) (y w kc ks : Nat), pI T n b p = some e → q_RX q_w6 N G N1 G1 → q_rd G1 T n e → q_It (q_iv N N1) N1 G1 b y w → p < e → w + p ≤ e → kc + 2 * p ≤ 2 * e + 1 → ks + 8 * p ≤ 8 * e + 5 → 5 ≤ L ∧ L < N1 ∧ ∃ (r6_0 : Nat) (i6_1 : Int32) (i6_2 : Int32), G1 L = oC 13 [.ref r6_0, .int i6_1, .int i6_2] ∧ cT (7) sM_166 0 [(0, .ref L), (1, .ref y)] [] (N1) G1 (fun r7 N7 G7 kc7 ks7 => ∃ v7 : Int32, r7 = .inl (some (.int v7)) ∧ 6 < N7 ∧ ∃ (i8_1 : Int32) (i8_2 : Int32), G7 6 = oC 1 [.ref 7, .int i8_1, .int i8_2] ∧ ((i8_1.toInt ≤ i8_2.toInt → K (.inl (some (.int 1))) (N7) G7 (kc + kc7) (ks + ks7)) ∧ (i8_2.toInt < i8_1.toInt → 7 < N7 ∧ ∃ (f10 : Nat → Int32), G7 7 = .inl (1, (48, .inl f10)) ∧ 0 ≤ i8_2.toInt ∧ i8_2.toInt < (48 : Nat) ∧ (((f10 i8_2.toNatClampNeg).toInt = 44 → cT (63) sM_36 2 [(0, .ref 6), (1, .ref L), (2, .int p2), (3, .int (p3 + 1))] [] (N7) (va_up G7 6 (oC 1 [.ref 7, .int i8_1, .int (i8_2 + 1)])) (fun r N1 G1 kc1 ks1 => K r N1 G1 (kc + kc7 + kc1) (ks + ks7 + ks1))) ∧ ((f10 i8_2.toNatClampNeg).toInt ≠ 44 → K (.inl (some (.int 1))) (N7) G7 (kc + kc7) (ks + ks7)))))) := by
      intro e N1 G1 y w kc ks u1 u2 u3 u4 u5 u6 u7 u8
      have hN1 := u2.1
      have een : e ≤ 48 := by
        obtain ⟨ln, at_, g1, g2, g3, g4, g5, g6⟩ := u3
        omega
      have eL1 : G1 L = _ := (u2.2.1 L hLN (fun z => by have : L = 6 := z; omega)).trans eL
      have ha6 : a ≠ 6 := by
        intro q
        obtain ⟨ln, at_, g1, -⟩ := hrd
        rw [q, g1] at ea
        exact oa_ne ea
      have ea1 : G1 a = _ := (u2.2.1 a haN ha6).trans ea
      obtain ⟨j, hj⟩ := hmi
      have hj1 : G1 4 = .inr (.inr j) := (u2.2.1 4 (by omega) (fun z => by have : 4 = 6 := z; omega)).trans hj
      have iold : ∀ i, i < m → ∃ q, f i = some q ∧ q_It F N1 G1 b q (ws i) := fun i hi => by
        obtain ⟨q, z1, z2⟩ := hit i hi
        exact ⟨q, z1, z2.fr hN1 (fun _ z => z) (fun q z => u2.2.1 q (hF q z).1 (hF q z).2.1)⟩
      obtain ⟨y5, yN, yF, sg, lv, t1, o2, o3, w1, w2, w3, ey, -⟩ := id u4
      refine ⟨by omega, by omega, a, sz, mc, eL1, ?_⟩
      -- what follows once the list holds the Item
      have after : ∀ (N2 : Nat) (G2 : Nat → sx_C) (kc2 ks2 a2 nn2 : Nat) (f2 : Nat → Option Nat), q_RX (q_wL L a) N G N2 G2 → N1 ≤ N2 → q_rd G2 T n e → G2 4 = .inr (.inr j) → G2 L = oC 13 [.ref a2, .int (sz + 1), .int (mc + 1)] → a2 < N2 → (a2 = a ∨ N ≤ a2) → 64 < a2 → G2 a2 = aC 4 nn2 f2 → m + 1 ≤ nn2 → nn2 ≤ 2 * (m + 1) + 10 → 10 ≤ nn2 → nn ≤ nn2 → (∀ q, F q → q ≠ a2) → (∀ q, (F q ∨ q_iv N N1 q) → G2 q = G1 q) → (a2 = a ∨ N1 ≤ a2) → (∀ i, i < m → f2 i = f i) → f2 m = some y → kc2 + nn ≤ nn2 → ks2 + 8 * nn ≤ 8 * nn2 →
          ∃ v7 : Int32, (Sum.inl (some (.int 1)) : Option Value ⊕ Nat) = .inl (some (.int v7)) ∧ 6 < N2 ∧ ∃ (i8_1 : Int32) (i8_2 : Int32), G2 6 = oC 1 [.ref 7, .int i8_1, .int i8_2] ∧ ((i8_1.toInt ≤ i8_2.toInt → K (.inl (some (.int 1))) (N2) G2 (kc + kc2) (ks + ks2)) ∧ (i8_2.toInt < i8_1.toInt → 7 < N2 ∧ ∃ (f10 : Nat → Int32), G2 7 = .inl (1, (48, .inl f10)) ∧ 0 ≤ i8_2.toInt ∧ i8_2.toInt < (48 : Nat) ∧ (((f10 i8_2.toNatClampNeg).toInt = 44 → cT (63) sM_36 2 [(0, .ref 6), (1, .ref L), (2, .int p2), (3, .int (p3 + 1))] [] (N2) (va_up G2 6 (oC 1 [.ref 7, .int i8_1, .int (i8_2 + 1)])) (fun r N1 G1 kc1 ks1 => K r N1 G1 (kc + kc2 + kc1) (ks + ks2 + ks1))) ∧ ((f10 i8_2.toNatClampNeg).toInt ≠ 44 → K (.inl (some (.int 1))) (N2) G2 (kc + kc2) (ks + ks2))))) := by
        intro N2 G2 kc2 ks2 a2 nn2 f2 d1 d2 d3 d4 d5 d6 d7 d8 d9 d10 d11 d12 d13 d14 d15 d16 d17 d18 d19 d20
        obtain ⟨ln2, at2, m1, m2, m3, m4, m5, m6⟩ := id d3
        have ec : at2.toNatClampNeg = e := i32_cl m3
        have esz : (sz + 1).toInt = ((m + 1 : Nat) : Int) := by
          rw [i32_succ (by omega) (by omega), hsz]
          omega
        have hF2 : ∀ q, (F q ∨ q_iv N N1 q) → q < N2 ∧ q ≠ 6 ∧ q ≠ L ∧ q ≠ a2 := by
          intro q z
          rcases z with z | z
          · have := hF q z
            have := d14 q z
            exact ⟨by omega, by omega, by omega, by omega⟩
          · have z1 := z.1
            have z2 := z.2
            exact ⟨by omega, by omega, by omega, by omega⟩
        have hit2 : ∀ i, i < m + 1 → ∃ q, f2 i = some q ∧ q_It (fun q => F q ∨ q_iv N N1 q) N2 G2 b q (va_up ws m w i) := by
          intro i hi
          by_cases q : i = m
          · rw [q]
            refine ⟨y, d18, ?_⟩
            rw [up_eq]
            exact u4.fr d2 (fun q z => Or.inr z) (fun q z => d15 q (Or.inr z))
          · obtain ⟨z, z1, z2⟩ := iold i (by omega)
            refine ⟨z, (d17 i (by omega)).trans z1, ?_⟩
            rw [va_ne q]
            exact z2.fr d2 (fun q z => Or.inl z) (fun q z => d15 q (Or.inl z))
        have hsum : q_sm (va_up ws m w) (m + 1) = q_sm ws m + w := q_sm_up1
        have incl : ∀ (N3 : Nat), N2 ≤ N3 → ∀ q, ((F q ∨ q_iv N N1 q) ∨ q_iv N2 N3 q ∨ q = L ∨ q = a2) → (F q ∨ q_iv N N3 q ∨ q = L ∨ q = a) := by
          intro N3 h23 q z
          rcases z with (z | z) | z | z | z
          · exact Or.inl z
          · exact Or.inr (Or.inl ⟨z.1, by have := z.2; omega⟩)
          · exact Or.inr (Or.inl ⟨by have := z.1; omega, z.2⟩)
          · exact Or.inr (Or.inr (Or.inl z))
          · rcases d7 with d7 | d7
            · exact Or.inr (Or.inr (Or.inr (z.trans d7)))
            · exact Or.inr (Or.inl ⟨by omega, by omega⟩)
        have done : gC T n e ≠ 44 → K (.inl (some (.int 1))) N2 G2 (kc + kc2) (ks + ks2) := fun q => by
          refine hK1 e 1 N2 G2 (q_sm (va_up ws m w) (m + 1)) _ _ nn2 (by rw [hIs, u1]; exact if_neg q) d1 d3 ?_ (by omega) (by omega) d13 (by omega) (by omega) (by omega)
          refine ⟨by omega, by omega, Or.inr (Or.inr (Or.inl rfl)), a2, nn2, sz + 1, mc + 1, f2, va_up ws m w, d5, esz, d6, incl N2 (Nat.le_refl _) a2 (Or.inr (Or.inr (Or.inr rfl))), d9, d10, fun i hi => ?_, Nat.le_refl _⟩
          obtain ⟨z, z1, z2⟩ := hit2 i hi
          exact ⟨z, z1, z2.fr (Nat.le_refl N2) (fun q z => incl N2 (Nat.le_refl _) q (Or.inl z)) (fun _ _ => rfl)⟩
        refine ⟨1, rfl, by omega, ln2, at2, m1, fun hge => done ?_, fun hlt => ⟨by omega, T, m6, by omega, by omega, ?_⟩⟩
        · rw [gC_out (by omega)]
          omega
        rw [ec]
        have hg : gC T n e = (T e).toInt := gC_in (by omega)
        refine ⟨fun c44 => ?_, fun c44 => done (by omega)⟩
        have hnx := d3.nx (by omega) m1
        have e6 : ∀ q, q ≠ 6 → (va_up G2 6 (oC 1 [.ref 7, .int ln2, .int (at2 + 1)])) q = G2 q := fun q z => va_ne z
        have d16' : q_RX (q_wL L a) N G N2 (va_up G2 6 (oC 1 [.ref 7, .int ln2, .int (at2 + 1)])) := d1.tr (q_RX.up (W := q_w6) (fun q => by
          rw [m1] at q
          rcases q with ⟨ci, gs, z, z2⟩ | ⟨t, m, f, z, -⟩
          · have := (oC_inj z).1
            omega
          · exact (oa_ne z).elim) rfl) w6L
        have wtr : ∀ q, q < N → q_wL L a2 q → q_wL L a q := fun q hq z => by
          rcases z with z | z | z
          · exact Or.inl z
          · exact Or.inr (Or.inl z)
          · rcases d7 with d7 | d7
            · exact Or.inr (Or.inr ⟨z.1.trans d7, by rw [← d7]; omega⟩)
            · omega
        have hIs2 : pIs T n b (fuel + 1) p = match pIs T n b fuel (e + 1) with
          | none => none
          | some q => some (q.1, q.2 + 1) := by
          rw [hIs, u1]
          exact if_pos (by omega)
        refine ih (p3 + 1) (e + 1) N2 (m + 1) a2 nn2 _ (sz + 1) (mc + 1) f2 (va_up ws m w) (fun q => F q ∨ q_iv N N1 q) _ (by rw [i32_succ h30 (by omega)]; omega) (by rw [i32_succ h30 (by omega)]; omega) (by omega) hnx ⟨j, (e6 4 (by decide)).trans d4⟩ ((e6 L (by omega)).trans d5) esz d6 ((e6 a2 (by omega)).trans d9) d10 d11 (Or.inr ⟨d8, d12⟩) (by omega) hF2 (fun i hi => ?_) (fun e3 m3 N3 G3 w3 kc3 ks3 nn3 v1 v2 v3 v4 v5 v6 v7 v8 v9 v10 => ?_) (fun e3 N3 G3 kc3 ks3 nn3 v1 v2 v3 v4 v5 v6 v7 => ?_)
        · obtain ⟨z, z1, z2⟩ := hit2 i hi
          exact ⟨z, z1, z2.fr (Nat.le_refl N2) (fun q z => z) (fun q z => e6 q (hF2 q z).2.1)⟩
        · exact hK1 e3 (m3 + 1) N3 G3 w3 _ _ nn3 (by rw [hIs2, v1]) (d16'.tr v2 wtr) v3 (by rw [show m + (m3 + 1) = m + 1 + m3 by omega]; exact v4.mono (incl N3 v2.1) (Nat.le_refl _)) (by omega) (by omega) (by omega) v8 (by omega) (by omega)
        · exact hK0 e3 N3 G3 _ _ nn3 (by rw [hIs2, v1]) (d16'.tr v2 wtr) v3 (by omega) v5 (by omega) (by omega)
      refine c_ladd (cy := 9) (s := m) ⟨by omega, j, hj1⟩ (by omega) (by omega) eL1 hsz (by omega) ea1 hmn (by omega) (by omega) (fun i hi => ?_) y5 yN ey (by have := yF.1; omega) rfl (fun hlt G2 r1 r2 r3 => ?_) (fun heq G2 n1 f1 s1 s2 s3 s4 r1 r2 r3 r4 r5 => ?_)
      · obtain ⟨q, z1, z2⟩ := iold i hi
        intro z ez
        rw [z1] at ez
        cases ez
        obtain ⟨x5, xN, xF, sg', lv', t1', o2', o3', w1', w2', w3', ex', -⟩ := z2
        exact ⟨x5, xN, 9, _, ex', rfl⟩
      · have a64 : 64 < a := by omega
        have hR : q_RX (q_wL L a) N1 G1 N1 G2 := by
          refine ⟨Nat.le_refl _, fun q hq hn => r1 q (fun z => hn (Or.inr (Or.inl z))) (fun z => hn (Or.inr (Or.inr ⟨z, by omega⟩))), fun q h1 h2 => by omega, fun q hq hf => ?_⟩
          by_cases qL : q = L
          · rw [qL, r2]
            exact Or.inl ⟨13, _, rfl, Or.inr (Or.inr (Or.inr rfl))⟩
          · by_cases qa : q = a
            · rw [qa, r3]
              exact Or.inr ⟨4, _, _, rfl, Or.inr rfl⟩
            · rw [r1 q qL qa]
              exact hf
        refine after N1 G2 0 0 a nn (va_up f m (some y)) ((q_RX.rfl'.tr u2 w6L).tr hR (fun _ _ z => z)) (Nat.le_refl _) (u3.fr (r1 6 (by omega) (by omega)) (r1 7 (by omega) (by omega))) ((r1 4 (by omega) (by omega)).trans hj1) r2 (by omega) (Or.inl rfl) a64 r3 (by omega) (by omega) (by omega) (by omega) (fun q z => (hF q z).2.2.2) (fun q z => ?_) (Or.inl rfl) (fun i hi => va_ne (by omega)) up_eq (by omega) (by omega)
        rcases z with z | z
        · exact r1 q (hF q z).2.2.1 (hF q z).2.2.2
        · have z1 := z.1
          exact r1 q (by omega) (by omega)
      · have hR : q_RX (q_wL L a) N1 G1 (N1 + 1) G2 := by
          refine ⟨by omega, fun q hq hn => r1 q hq (fun z => hn (Or.inr (Or.inl z))), fun q h1 h2 => ?_, fun q hq hf => ?_⟩
          · rw [show q = N1 by omega, r3]
            exact Or.inr ⟨4, _, _, rfl, Or.inr rfl⟩
          · by_cases qL : q = L
            · rw [qL, r2]
              exact Or.inl ⟨13, _, rfl, Or.inr (Or.inr (Or.inr rfl))⟩
            · rw [r1 q hq qL]
              exact hf
        refine after (N1 + 1) G2 1 n1 N1 n1 f1 ((q_RX.rfl'.tr u2 w6L).tr hR (fun _ _ z => z)) (by omega) (u3.fr (r1 6 (by omega) (by omega)) (r1 7 (by omega) (by omega))) ((r1 4 (by omega) (by omega)).trans hj1) r2 (by omega) (Or.inr hN1) (by omega) r3 (by omega) (by omega) (by omega) (by omega) (fun q z => by have := (hF q z).1; omega) (fun q z => ?_) (Or.inr (Nat.le_refl _)) r4 r5 (by omega) (by omega)
        rcases z with z | z
        · exact r1 q (by have := (hF q z).1; omega) (hF q z).2.2.1
        · have z1 := z.1
          have z2 := z.2
          exact r1 q z2 (by omega)
    refine k_36_2 ⟨fun q => by omega, fun _ => ⟨fun hz => ⟨by omega, ln, at_, g1, ?_⟩, fun hz => ⟨by omega, ln, at_, g1, ?_⟩⟩⟩
    · have hbt : b = true := by
        rcases hb with hb | hb
        · exact hb.1
        · exact absurd hz hb.2
      have hpI : pI T n b p = pG T n p := by
        unfold pI
        rw [if_pos hbt]
      refine j_goal (by omega) hrd (fun e N1 G1 y w kc ks u1 u2 u3 u4 u5 u6 u7 u8 => ⟨some y, rfl, fun q => (by cases q), fun x5 ex => ?_⟩) (fun e N1 G1 kc ks u1 u2 u3 u4 u5 u6 => ⟨none, rfl, fun _ => none0 e N1 G1 kc ks (hpI.trans u1) u2 u3 u4 u5 u6, fun x ex => (by cases ex)⟩)
      cases ex
      exact step e N1 G1 y w kc ks (hpI.trans u1) u2 u3 (by rw [hbt]; exact u4) u5 u6 u7 u8
    · have hbt : b = false := by
        rcases hb with hb | hb
        · exact absurd hb.2 hz
        · exact hb.1
      have hpI : pI T n b p = pU T n p := by
        unfold pI
        rw [hbt]
        rfl
      refine j_guard (by omega) hrd (fun e N1 G1 y w kc ks u1 u2 u3 u4 u5 u6 u7 u8 => ⟨some y, rfl, fun q => (by cases q), fun x5 ex => ?_⟩) (fun e N1 G1 kc ks u1 u2 u3 u4 u5 u6 => ⟨none, rfl, fun _ => none0 e N1 G1 kc ks (hpI.trans u1) u2 u3 u4 u5 u6, fun x ex => (by cases ex)⟩)
      cases ex
      exact step e N1 G1 y w kc ks (hpI.trans u1) u2 u3 (by rw [hbt]; exact u4) u5 u6 u7 u8
end QIs
