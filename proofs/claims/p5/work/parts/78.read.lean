/-! THE CLASS'S READER: what it accepts (pT, pP), and the Terms that it makes -/
def pT (T : Nat → Int32) (n : Nat) : Nat → Nat → Option Nat
  | 0, _ => none
  | r + 1, p => if 65 ≤ gC T n p ∧ gC T n p ≤ 90 then some (p + 1) else if 48 ≤ gC T n p ∧ gC T n p ≤ 57 then (if 48 ≤ gC T n (p + 1) ∧ gC T n (p + 1) ≤ 57 then some (p + 2) else some (p + 1)) else if 97 ≤ gC T n p ∧ gC T n p ≤ 122 then (if 1 ≤ r ∧ gC T n (p + 1) = 40 then
      (match pT T n r (p + 2) with
      | none => none
      | some q => if gC T n q = 41 then some (q + 1) else if gC T n q = 44 then
        (match pT T n r (q + 1) with
        | none => none
        | some q => if gC T n q = 41 then some (q + 1) else if gC T n q = 44 then
          (match pT T n r (q + 1) with
          | none => none
          | some q => if gC T n q = 41 then some (q + 1) else none) else none) else none) else some (p + 1)) else none
def pP (T : Nat → Int32) (n r : Nat) : Nat → Nat → Option Nat
  | 0, _ => none
  | k + 1, p => match pT T n r p with
    | none => none
    | some q => if gC T n q = 41 then some (q + 1) else if k ≠ 0 ∧ gC T n q = 44 then pP T n r k (q + 1) else none
def gK (ch : Int) : Int := if 65 ≤ ch ∧ ch ≤ 90 then 0 else if 48 ≤ ch ∧ ch ≤ 57 then 1 else 2
def q_rd (G : Nat → sx_C) (T : Nat → Int32) (n p : Nat) : Prop := ∃ ln at_ : Int32, G 6 = oC 1 [.ref 7, .int ln, .int at_] ∧ ln.toInt = (n : Int) ∧ at_.toInt = (p : Int) ∧ p ≤ n ∧ n ≤ 48 ∧ G 7 = .inl (1, (48, .inl T))
def q_r0 (G : Nat → sx_C) (T : Nat → Int32) (n : Nat) : Prop := ∃ ln at_ : Int32, G 6 = oC 1 [.ref 7, .int ln, .int at_] ∧ ln.toInt = (n : Int) ∧ n ≤ 48 ∧ G 7 = .inl (1, (48, .inl T))
def q_fc (c : sx_C) : Prop := (∃ ci fs, c = oC ci fs ∧ (ci = 7 ∨ ci = 8 ∨ ci = 9 ∨ ci = 13)) ∨ (∃ t n f, c = aC t n f ∧ (t = 8 ∨ t = 4))
def q_RX (W : Nat → Prop) (N : Nat) (G : Nat → sx_C) (N1 : Nat) (G1 : Nat → sx_C) : Prop := N ≤ N1 ∧ (∀ p, p < N → ¬ W p → G1 p = G p) ∧ (∀ p, N ≤ p → p < N1 → q_fc (G1 p)) ∧ (∀ p, p < N → q_fc (G p) → q_fc (G1 p))
section QRd
variable {W W' F : Nat → Prop} {T : Nat → Int32} {N N1 N2 n p x y : Nat} {G G1 G2 : Nat → sx_C} {K : Option Value ⊕ Nat → Nat → (Nat → sx_C) → Nat → Nat → Prop}
theorem pT_P (r p : Nat) : pT T n (r + 1) p = if 65 ≤ gC T n p ∧ gC T n p ≤ 90 then some (p + 1) else if 48 ≤ gC T n p ∧ gC T n p ≤ 57 then (if 48 ≤ gC T n (p + 1) ∧ gC T n (p + 1) ≤ 57 then some (p + 2) else some (p + 1)) else if 97 ≤ gC T n p ∧ gC T n p ≤ 122 then (if 1 ≤ r ∧ gC T n (p + 1) = 40 then pP T n r 3 (p + 2) else some (p + 1)) else none := by
  unfold pT
  have e : ∀ q, (match pT T n r q with
      | none => none
      | some q => if gC T n q = 41 then some (q + 1) else if gC T n q = 44 then
        (match pT T n r (q + 1) with
        | none => none
        | some q => if gC T n q = 41 then some (q + 1) else if gC T n q = 44 then
          (match pT T n r (q + 1) with
          | none => none
          | some q => if gC T n q = 41 then some (q + 1) else none) else none) else none) = pP T n r 3 q := by
    intro q
    simp only [pP, ne_eq, Nat.succ_ne_zero, not_false_eq_true, true_and, not_true_eq_false, false_and, if_false]
  rw [e]
theorem gC_in (h : p < n) : gC T n p = (T p).toInt := if_pos h
theorem gC_out (h : n ≤ p) : gC T n p = 0 := if_neg (by omega)
theorem q_RX.rfl' : q_RX W N G N G := ⟨Nat.le_refl N, fun _ _ _ => rfl, fun p h1 h2 => by omega, fun _ _ h => h⟩
theorem q_RX.tr (h : q_RX W N G N1 G1) (g : q_RX W' N1 G1 N2 G2) (hW : ∀ p, p < N → W' p → W p) : q_RX W N G N2 G2 := by
  refine ⟨Nat.le_trans h.1 g.1, fun p hp hn => ?_, fun p h1 h2 => ?_, fun p hp hf => g.2.2.2 p (Nat.lt_of_lt_of_le hp h.1) (h.2.2.2 p hp hf)⟩
  · rw [g.2.1 p (Nat.lt_of_lt_of_le hp h.1) (fun q => hn (hW p hp q))]
    exact h.2.1 p hp hn
  · by_cases q : p < N1
    · exact g.2.2.2 p q (h.2.2.1 p h1 q)
    · exact g.2.2.1 p (by omega) h2
theorem q_RX.up {c : sx_C} (hf : q_fc (G x) → q_fc c) (hx : W x) : q_RX W N G N (va_up G x c) := by
  refine ⟨Nat.le_refl N, fun p hp hn => va_ne (fun q => hn (q ▸ hx)), fun p h1 h2 => by omega, fun p hp h => ?_⟩
  by_cases q : p = x
  · rw [q, up_eq]
    rw [q] at h
    exact hf h
  · rw [va_ne q]
    exact h
theorem q_rd.nx (h : q_rd G T n p) (hp : p < n) {ln at_ : Int32} (e : G 6 = oC 1 [.ref 7, .int ln, .int at_]) : q_rd (va_up G 6 (oC 1 [.ref 7, .int ln, .int (at_ + 1)])) T n (p + 1) := by
  obtain ⟨ln', at', h1, h2, h3, h4, h5, h6⟩ := h
  have := (oC_inj (e.symm.trans h1)).2
  cases this
  refine ⟨ln, at_ + 1, up_eq, h2, ?_, hp, h5, (va_ne (by decide)).trans h6⟩
  rw [i32_succ (by omega) (by omega), h3]
  omega
theorem q_rd.fr (h : q_rd G T n p) (e6 : G1 6 = G 6) (e7 : G1 7 = G 7) : q_rd G1 T n p := by
  obtain ⟨ln, at_, h1, h2, h3, h4, h5, h6⟩ := h
  exact ⟨ln, at_, e6.trans h1, h2, h3, h4, h5, e7.trans h6⟩
def q_w6 (p : Nat) : Prop := p = 6
/-- a new Term behind the last cell -/
theorem q_new5 {a c1 c2 c3 c4 : sx_C} (h6 : 7 < N) : (∀ p, p < N → p ≠ 6 → (va_up (va_up (va_up (va_up (va_up G 6 a) N c1) N c2) (N + 1) c3) N c4) p = G p) ∧ (va_up (va_up (va_up (va_up (va_up G 6 a) N c1) N c2) (N + 1) c3) N c4) 6 = a ∧ (va_up (va_up (va_up (va_up (va_up G 6 a) N c1) N c2) (N + 1) c3) N c4) N = c4 ∧ (va_up (va_up (va_up (va_up (va_up G 6 a) N c1) N c2) (N + 1) c3) N c4) (N + 1) = c3 := by
  refine ⟨fun p hp hn => ?_, ?_, up_eq, ?_⟩
  · rw [va_ne (by omega), va_ne (by omega), va_ne (by omega), va_ne (by omega), va_ne hn]
  · rw [va_ne (by omega), va_ne (by omega), va_ne (by omega), va_ne (by omega), up_eq]
  · rw [va_ne (by omega), up_eq]
theorem q_newR {k v s cp : Int32} {m : Nat} {f : Nat → Option Nat} (h6 : 7 < N) (e : ∀ p, p < N → p ≠ 6 → G1 p = G p) (eN : G1 N = oC 7 [.int k, .int v, .ref (N + 1), .int s, .int cp]) (eN1 : G1 (N + 1) = aC 8 m f) (e6 : ∃ fs, G1 6 = oC 1 fs) (g6 : ∃ fs, G 6 = oC 1 fs) : q_RX q_w6 N G (N + 1 + 1) G1 := by
  refine ⟨by omega, fun p hp hn => e p hp hn, fun p h1 h2 => ?_, fun p hp hf => ?_⟩
  · by_cases q : p = N
    · rw [q, eN]
      exact Or.inl ⟨7, _, rfl, Or.inl rfl⟩
    · rw [show p = N + 1 by omega, eN1]
      exact Or.inr ⟨8, _, _, rfl, Or.inl rfl⟩
  · by_cases q : p = 6
    · exfalso
      obtain ⟨fs, g⟩ := g6
      rw [q, g] at hf
      rcases hf with ⟨ci, gs, z, z2⟩ | ⟨t, m, f, z, -⟩
      · have := (oC_inj z).1
        omega
      · exact oa_ne z
    · rw [e p hp q]
      exact hf
/-- a Term without parts -/
theorem q_Tm0 {k v cp : Int32} {m r : Nat} {f : Nat → Option Nat} {F : Nat → Prop} (h5 : 5 ≤ y) (hN : y + 1 < N) (f1 : F y) (f2 : F (y + 1)) (e : G y = oC 7 [.int k, .int v, .ref (y + 1), .int 0, .int cp]) (ea : G (y + 1) = aC 8 m f) (hk : (k.toInt = 0 → 0 ≤ v.toInt ∧ v.toInt < 26) ∧ (k.toInt ≠ 0 → k.toInt ≠ 1 → 0 ≤ v.toInt ∧ v.toInt ≤ 255)) : q_Tm F N G (r + 1) y 1 :=
  ⟨h5, hN, f1, f2, k, v, 0, cp, m, 0, f, fun _ => 0, e, ea, rfl, Nat.zero_le _, Nat.zero_le _, hk, fun i hi => by omega, Nat.le_refl _⟩
set_option maxHeartbeats 1000000 in
theorem j_num {r : Nat} (h64 : 64 < N) (h : q_rd G T n p) (hp : p < n) (hK : ∀ N1 G1 e y v cp kc ks, (e = if 48 ≤ gC T n (p + 1) ∧ gC T n (p + 1) ≤ 57 then p + 2 else p + 1) → q_RX q_w6 N G N1 G1 → q_rd G1 T n e → q_Tm (fun q => N ≤ q ∧ q < N1) N1 G1 (r + 1) y 1 → G1 y = oC 7 [.int 1, .int v, .ref (y + 1), .int 0, .int cp] → kc = 2 → ks = 5 → K (.inl (some (.ref y))) N1 G1 kc ks) : cT 2 sM_31 0 [(0, .ref 6)] [] N G K := by
  obtain ⟨ln, at_, h1, h2, h3, h4, h5, h7⟩ := id h
  have e1 : (at_ + 1).toInt = (p : Int) + 1 := by rw [i32_succ (by omega) (by omega), h3]
  have ec : (at_ + 1).toNatClampNeg = p + 1 := i32_cl (by omega)
  have fin : ∀ (a' v : Int32) (e : Nat), (e = if 48 ≤ gC T n (p + 1) ∧ gC T n (p + 1) ≤ 57 then p + 2 else p + 1) → a'.toInt = (e : Int) → e ≤ n → K (.inl (some (.ref N))) (N + 1 + 1) (va_up (va_up (va_up (va_up (va_up G 6 (oC 1 [.ref 7, .int ln, .int a'])) N (oC 7 [.int 0, .int 0, .null, .int 0, .int 0])) N (oC 7 [.int 1, .int v, .null, .int 0, .int 0])) (N + 1) (aC 8 0 (fun _ => none))) N (oC 7 [.int 1, .int v, .ref (N + 1), .int 0, .int 0])) 2 5 := by
    intro a' v e he ha hen
    obtain ⟨g1, g2, g3, g4⟩ := q_new5 (G := G) (N := N) (a := oC 1 [.ref 7, .int ln, .int a']) (c1 := oC 7 [.int 0, .int 0, .null, .int 0, .int 0]) (c2 := oC 7 [.int 1, .int v, .null, .int 0, .int 0]) (c3 := aC 8 0 (fun _ => none)) (c4 := oC 7 [.int 1, .int v, .ref (N + 1), .int 0, .int 0]) (by omega)
    refine hK _ _ e N v 0 2 5 he (q_newR (by omega) g1 g3 g4 ⟨_, g2⟩ ⟨_, h1⟩) ⟨ln, a', g2, h2, ha, hen, h5, (g1 7 (by omega) (by decide)).trans h7⟩ (q_Tm0 (by omega) (by omega) ⟨by omega, by omega⟩ ⟨by omega, by omega⟩ g3 g4 ⟨fun q => absurd q (by decide), fun _ q => absurd rfl q⟩) g3 rfl rfl
  refine k_31_0 ⟨by omega, ln, at_, h1, fun q => by omega, fun _ => ⟨by omega, T, h7, by omega, by omega, fun hge => ⟨by omega, ?_⟩, fun hlt => ⟨by omega, by omega, fun c48 => ⟨by omega, ?_⟩, fun c48 => ⟨fun c57 => ⟨by omega, ?_⟩, fun c57 => ⟨fun q => by omega, fun _ => ⟨by omega, by omega, by omega, ?_⟩⟩⟩⟩⟩⟩
  · exact fin _ _ (p + 1) (by rw [gC_out (by omega), if_neg (by omega)]) (by omega) (by omega)
  · rw [ec] at c48
    exact fin _ _ (p + 1) (by rw [gC_in (by omega), if_neg (by omega)]) (by omega) (by omega)
  · rw [ec] at c57
    exact fin _ _ (p + 1) (by rw [gC_in (by omega), if_neg (by omega)]) (by omega) (by omega)
  · rw [ec] at c57 c48
    exact fin _ _ (p + 2) (by rw [gC_in (by omega), if_pos ⟨c48, c57⟩]) (by rw [i32_succ (by omega) (by omega)]; omega) (by omega)
end QRd
