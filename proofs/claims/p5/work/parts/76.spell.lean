/-! Integer.stringSize, getChars, append(int); GuardNet.spell, letter -/
section QI
variable {N N1 u c mk n cnt b y : Nat} {G G1 : Nat → sx_C} {K : Option Value ⊕ Nat → Nat → (Nat → sx_C) → Nat → Nat → Prop}
theorem i32_neg {x : Int32} {s : Int} (h : -x.toInt = s) (h1 : s < 2147483648) : ∃ y : Int32, -x = y ∧ y.toInt = s := by
  refine ⟨_, rfl, ?_⟩
  have hx := Int32.toInt_lt x
  have hx' : x.toInt < 2147483648 := hx
  subst h
  rw [Int32.toInt_neg]
  exact Int.bmod_eq_of_le (by omega) (by omega)
theorem j_ss16 {x d : Int32} {a : Nat} (hx : x.toInt = -(a : Int)) (ha : a ≤ 2147483648) (hK : ∀ (v : Int32) (k : Nat), v.toInt = (k : Int) + d.toInt → 1 ≤ k → k ≤ 10 → a < 10 ^ k → K (.inl (some (.int v))) N G 0 0) (hd0 : 0 ≤ d.toInt) (hd1 : d.toInt ≤ 1) : ∀ (j i : Nat) (p2 p3 : Int32), i + j = 10 → 1 ≤ i → p3.toInt = (i : Int) → (i < 10 → p2.toInt = -((10 ^ i : Nat) : Int)) → cT 1 sM_192 16 [(0, .int x), (1, .int d), (2, .int p2), (3, .int p3)] [] N G K := by
  intro j
  induction j with
  | zero =>
    intro i p2 p3 hij h1 h3 h2
    have hi : i = 10 := by omega
    subst hi
    refine k_192_16 ⟨fun _ => hK _ 10 (i32_add (by show 10 + _ = _; rfl) (by omega) (by omega)) (by omega) (by omega) (by omega), fun q => by omega⟩
  | succ j ih =>
    intro i p2 p3 hij h1 h3 h2
    have hp := h2 (by omega)
    have hpow : 10 ^ (i + 1) = 10 ^ i * 10 := Nat.pow_succ _ _
    refine k_192_16 ⟨fun q => by omega, fun _ => ⟨fun _ => ih (i + 1) (10 * p2) (p3 + 1) (by omega) (by omega) (by rw [i32_succ (by omega) (by omega), h3]; omega) (fun hi => ?_), fun q => hK _ i (i32_add (by rw [h3]) (by omega) (by omega)) h1 (by omega) (by omega)⟩⟩
    have hb : 10 ^ (i + 1) ≤ 10 ^ 9 := Nat.pow_le_pow_right (by decide) (by omega)
    have t10 : (10 : Int32).toInt = 10 := rfl
    exact i32_mul (by rw [t10, hp, hpow]; omega) (by omega) (by omega)
theorem j_ssize {p : Int32} (hK : ∀ (v : Int32) (k d a : Nat), v.toInt = (k : Int) + (d : Int) → 1 ≤ k → k ≤ 10 → a < 10 ^ k → ((p.toInt < 0 ∧ d = 1 ∧ p.toInt = -(a : Int)) ∨ (0 ≤ p.toInt ∧ d = 0 ∧ p.toInt = (a : Int))) → K (.inl (some (.int v))) N G 0 0) : cT 1 sM_192 0 [(0, .int p)] [] N G K := by
  have hl : -2147483648 ≤ p.toInt := Int32.le_toInt p
  have hu : p.toInt < 2147483648 := Int32.toInt_lt p
  refine k_192_0 ⟨fun h => ?_, fun h => ?_⟩
  · exact j_ss16 (d := 1) (a := (-p.toInt).toNat) (by omega) (by omega) (fun v k h1 h2 h3 h4 => hK v k 1 _ h1 h2 h3 h4 (Or.inl ⟨h, rfl, by omega⟩)) (by decide) (by decide) 9 1 (-10) 1 (by omega) (by omega) rfl (fun _ => rfl)
  · obtain ⟨y, ey, hy⟩ := i32_neg (x := p) (s := -p.toInt) rfl (by omega)
    rw [ey]
    exact j_ss16 (d := 0) (a := p.toInt.toNat) (by omega) (by omega) (fun v k h1 h2 h3 h4 => hK v k 0 _ h1 h2 h3 h4 (Or.inr ⟨h, rfl, by omega⟩)) (by decide) (by decide) 9 1 (-10) 1 (by omega) (by omega) rfl (fun _ => rfl)
set_option maxHeartbeats 2000000 in
theorem j_gc22 {p1 p6 : Int32} (hZ : ∀ G1 : Nat → sx_C, (∀ p, p ≠ b → G1 p = G p) → (∃ f : Nat → Int32, G1 2 = .inl (1, (100, .inl f))) ∧ (∃ f : Nat → Int32, G1 3 = .inl (1, (100, .inl f)))) (hb : 31 < b) (hbN : b < N) {sg : Nat} (hs : (p6.toInt = 0 ∧ sg = 0) ∨ (p6.toInt ≠ 0 ∧ sg = 1)) (hn6 : n ≤ 600) (hK : ∀ (v : Int32) G1 f1, (∀ p, p ≠ b → G1 p = G p) → G1 b = .inl (1, (n, .inl f1)) → (∀ i, sx_fit .byte (.int (f1 i)) = true) → K (.inl (some (.int v))) N G1 0 0) : ∀ (m k a : Nat) (p0 p5 : Int32) (G1 : Nat → sx_C) (f : Nat → Int32), k ≤ m → 1 ≤ k → a < 10 ^ k → p0.toInt = -(a : Int) → (k : Int) + (sg : Int) ≤ p5.toInt → p5.toInt ≤ (n : Int) → (∀ p, p ≠ b → G1 p = G p) → G1 b = .inl (1, (n, .inl f)) → (∀ i, sx_fit .byte (.int (f i)) = true) → cT 1 sM_193 22 [(0, .int p0), (1, .int p1), (2, .ref b), (5, .int p5), (6, .int p6)] [] N G1 K := by
  intro m
  induction m with
  | zero =>
    intro k a p0 p5 G1 f h1 h2
    omega
  | succ m ih =>
    intro k a p0 p5 G1 f hk1 hk2 ha hp0 hp5 hpn hE eb hf
    have hl : -2147483648 ≤ p0.toInt := Int32.le_toInt p0
    obtain ⟨q1, eq1, hq1⟩ := i32_mm (x := p5) (by omega) (by omega)
    obtain ⟨q2, eq2, hq2⟩ := i32_mm (x := q1) (by omega) (by omega)
    obtain ⟨q3, eq3, hq3⟩ := i32_mm (x := q2) (by omega) (by omega)
    obtain ⟨⟨f2, e2⟩, ⟨f3, e3⟩⟩ := hZ G1 hE
    have n2 : (2 : Nat) ≠ b := by omega
    have n3 : (3 : Nat) ≠ b := by omega
    have k1 : k = 1 → a < 10 := fun q => by
      rw [q] at ha
      exact ha
    have k2 : k = 2 → a < 100 := fun q => by
      rw [q] at ha
      exact ha
    refine k_193_22 ⟨fun hlt => ?_, fun hge => ?_⟩
    · obtain ⟨np, enp, hnp⟩ := i32_neg (x := p0) (s := (a : Int)) (by omega) (by omega)
      rw [enp, eq1]
      refine ⟨by omega, 100, f2, e2, by omega, by omega, by omega, hbN, n, f, eb, by omega, by omega, fun h9 => ⟨fun h6 => ?_, fun h6 => ?_⟩, fun h9 => ⟨by omega, 100, f3, (va_ne n3).trans e3, by omega, by omega, ?_⟩⟩
      · exact hK _ _ _ (fun p hp => (va_ne hp).trans (hE p hp)) up_eq (q_fitu hf)
      · rw [eq2]
        exact ⟨by omega, by omega, hK _ _ _ (fun p hp => (va_ne hp).trans (hE p hp)) up_eq (q_fitu (q_fitu hf))⟩
      · rw [eq2]
        refine ⟨by omega, by omega, fun h6 => ?_, fun h6 => ?_⟩
        · exact hK _ _ _ (fun p hp => (va_ne hp).trans (hE p hp)) up_eq (q_fitu (q_fitu hf))
        · rw [eq3]
          exact ⟨by omega, by omega, hK _ _ _ (fun p hp => (va_ne hp).trans (hE p hp)) up_eq (q_fitu (q_fitu (q_fitu hf)))⟩
    · have t100 : (100 : Int32).toInt = 100 := rfl
      have ed : (p0 / 100).toInt = -((a / 100 : Nat) : Int) := by
        rw [Jvm.Kit.i32_div (by rw [t100]; omega), hp0, t100, Int.neg_tdiv, Int.tdiv_eq_ediv_of_nonneg (by omega)]
        omega
      have em : (p0 / 100 * 100).toInt = -((a / 100 * 100 : Nat) : Int) := i32_mul (by rw [ed, t100]; omega) (by omega) (by omega)
      obtain ⟨r, er, hr⟩ : ∃ y : Int32, p0 / 100 * 100 - p0 = y ∧ y.toInt = ((a % 100 : Nat) : Int) := ⟨_, rfl, i32_sub (by rw [em, hp0]; omega) (by omega) (by omega)⟩
      have hk3 : 3 ≤ k := by omega
      have hpow : 10 ^ k = 10 ^ (k - 2) * 100 := by
        rw [show k = k - 2 + 2 by omega, Nat.pow_add]
        rfl
      rw [er, eq1, eq2]
      generalize p0 / 100 = dd at ed ⊢
      refine ⟨by omega, 100, f2, e2, by omega, by omega, by omega, hbN, n, f, eb, by omega, by omega, by omega, 100, f3, (va_ne n3).trans e3, by omega, by omega, by omega, by omega, ?_⟩
      exact ih (k - 2) (a / 100) dd q2 _ _ (by omega) (by omega) (by omega) ed (by omega) (by omega) (fun p hp => (va_ne hp).trans (hE p hp)) up_eq (q_fitu (q_fitu hf))
set_option maxHeartbeats 1000000 in
theorem j_appi {p1 : Int32} (h : q_lI N G u c mk n cnt) (h3 : cnt + 11 ≤ 290) (hK : ∀ N1 G1 kc ks n1 cnt1, q_lI N1 G1 u c mk n1 cnt1 → q_LR N G N1 G1 → cnt1 ≤ cnt + 11 → n ≤ n1 → kc + n ≤ n1 → ks + 8 * n ≤ 8 * n1 → K (.inl (some (.ref 31))) N1 G1 kc ks) : cT 6 sM_190 0 [(0, .ref 31), (1, .int p1)] [] N G K := by
  obtain ⟨b, ml, ct, f, p1', p2, p3, p4, p5, p6, p7, p8, p9⟩ := id h.2
  refine k_190_0 ⟨by omega, by omega, b, 0, ml, ct, p1', j_ssize (fun v k d a hv hk1 hk10 ha hs => ⟨rfl, rfl, rfl, rfl, v, rfl, ?_⟩)⟩
  have hd : d ≤ 1 := by omega
  have e1 : (ct + v).toInt = ((cnt + k + d : Nat) : Int) := i32_add (by rw [p2, hv]; omega) (by omega) (by omega)
  refine j_ensure h e1 (by omega) (fun N1 G1 kc ks n1 t1 t2 t3 t4 t5 t6 => ⟨rfl, ?_⟩)
  obtain ⟨b1, ml1, ct1, f1, q1, q2, q3, q4, q5, q6, q7, q8, q9⟩ := id t1.2
  have nb : b1 ≠ 31 := by omega
  refine ⟨by omega, by omega, b1, 0, ml1, ct1, q1, fun z => absurd rfl z, fun _ => ?_⟩
  have hZ0 : (∃ f : Nat → Int32, G1 2 = .inl (1, (100, .inl f))) ∧ (∃ f : Nat → Int32, G1 3 = .inl (1, (100, .inl f))) := by
    obtain ⟨sp, hn, -⟩ := t1.1
    exact hn.1.2.1.2.2.1.2
  have fin : ∀ (v6 : Int32) (G2 : Nat → sx_C) (f2 : Nat → Int32), (∀ p, p ≠ b1 → G2 p = G1 p) → G2 b1 = .inl (1, (n1, .inl f2)) → (∀ i, sx_fit .byte (.int (f2 i)) = true) → ∃ vv : Int32, (Sum.inl (some (.int v6)) : Option Value ⊕ Nat) = .inl (some (.int vv)) ∧ 5 ≤ 31 ∧ 31 < N1 ∧ ∃ (r7_0 : Nat) (i7_1 : Int32) (i7_2 : Int32) (i7_3 : Int32), G2 31 = oC 14 [.ref r7_0, .int i7_1, .int i7_2, .int i7_3] ∧ K (.inl (some (.ref 31))) (N1) (va_up G2 31 (oC 14 [.ref r7_0, .int i7_1, .int i7_2, .int (ct + v)])) (kc + 0) (ks + 0) := by
    intro v6 G2 f2 g1 g2 g3
    refine ⟨v6, rfl, by decide, by omega, b1, 0, ml1, ct1, (g1 31 (Ne.symm nb)).trans q1, ?_⟩
    obtain ⟨i1, r1⟩ := t1.same (G1 := va_up G2 31 (oC 14 [.ref b1, .int 0, .int ml1, .int (ct + v)])) (f1 := f2) q1 q5 (fun p hp h1 h2 => (va_ne h1).trans (g1 p h2)) up_eq ((va_ne nb).trans g2) g3 e1 t4
    exact hK N1 _ (kc + 0) (ks + 0) n1 _ i1 (t2.trans r1) (by omega) t3 (by omega) (by omega)
  have hZ : ∀ G2 : Nat → sx_C, (∀ p, p ≠ b1 → G2 p = G1 p) → (∃ f : Nat → Int32, G2 2 = .inl (1, (100, .inl f))) ∧ (∃ f : Nat → Int32, G2 3 = .inl (1, (100, .inl f))) := fun G2 g => by
    obtain ⟨⟨f2, z1⟩, ⟨f3, z2⟩⟩ := hZ0
    exact ⟨⟨f2, (g 2 (by omega)).trans z1⟩, ⟨f3, (g 3 (by omega)).trans z2⟩⟩
  refine k_193_0 ⟨fun h0 => ?_, fun h0 => ?_⟩
  · obtain ⟨np, enp, hnp⟩ := i32_neg (x := p1) (s := -(a : Int)) (by omega) (by omega)
    rw [enp]
    exact j_gc22 (n := n1) hZ q3 q4 (sg := 0) (Or.inl ⟨rfl, rfl⟩) q8 fin k k a np (ct + v) G1 f1 (Nat.le_refl k) hk1 ha hnp (by omega) (by omega) (fun p _ => rfl) q5 q6
  · exact j_gc22 (n := n1) hZ q3 q4 (sg := 1) (Or.inr ⟨by decide, rfl⟩) q8 fin k k a p1 (ct + v) G1 f1 (Nat.le_refl k) hk1 ha (by omega) (by omega) (by omega) (fun p _ => rfl) q5 q6
end QI
