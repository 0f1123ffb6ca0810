/-! THE JDK'S LIST: add; THE STORE: make, makeVariable -/
theorem i32_half {n : Nat} (h : n < 2 ^ 31) : (c_shr (Int32.ofNat n) 1).toInt = ((n / 2 : Nat) : Int) := by
  have e : c_shr (Int32.ofNat n) 1 = nI (n / 2 ^ 1) := pk_shrN h _ 1 (by decide)
  rw [e, nI_toInt (by omega)]
theorem i32_on {n : Nat} (h : n < 2 ^ 31) : (Int32.ofNat n).toInt = (n : Int) := nI_toInt h
section QL
variable {N x y a n s cy : Nat} {G : Nat → sx_C} {sz m : Int32} {f : Nat → Option Nat} {ys : List Value} {K : Option Value ⊕ Nat → Nat → (Nat → sx_C) → Nat → Nat → Prop}
set_option maxHeartbeats 1000000 in
theorem c_ladd (h4 : 4 < N ∧ ∃ j : Nat, G 4 = .inr (.inr j)) (h5 : 5 ≤ x) (hx : x < N) (e : G x = oC 13 [.ref a, .int sz, .int m]) (hs : sz.toInt = (s : Int)) (ha : a < N) (ea : G a = aC 4 n f) (hsn : s ≤ n) (hn : n ≤ 60000) (hc : (a = 1 ∧ n = 0) ∨ (5 ≤ a ∧ 10 ≤ n)) (hel : ∀ i, i < s → c_el N G (f i)) (y5 : 5 ≤ y) (hy : y < N) (ey : G y = oC cy ys) (hyx : y ≠ x) (hk : s_cst (cy + 1) 4 = true)
    (hK1 : s < n → ∀ G1, (∀ p, p ≠ x → p ≠ a → G1 p = G p) → G1 x = oC 13 [.ref a, .int (sz + 1), .int (m + 1)] → G1 a = aC 4 n (va_up f s (some y)) → K (.inl (some (.int 1))) N G1 0 0)
    (hK2 : s = n → ∀ G1 n1 f1, n < n1 → n1 ≤ 4 * (n1 - n) → n1 ≤ 2 * n + 10 → 10 ≤ n1 → (∀ p, p < N → p ≠ x → G1 p = G p) → G1 x = oC 13 [.ref N, .int (sz + 1), .int (m + 1)] → G1 N = aC 4 n1 f1 → (∀ i, i < s → f1 i = f i) → f1 s = some y → K (.inl (some (.int 1))) (N + 1) G1 1 n1) : cT 7 sM_166 0 [(0, .ref x), (1, .ref y)] [] N G K := by
  have hax : a ≠ x := fun q => by
    rw [q, e] at ea
    exact oa_ne ea
  have hya : y ≠ a := fun q => by
    rw [q, ea] at ey
    exact oa_ne ey.symm
  have en := i32_on (n := n) (by omega)
  have eh := i32_half (n := n) (by omega)
  have ec : sz.toNatClampNeg = s := i32_cl hs
  have z1 : (1 : Int32).toInt = 1 := rfl
  have es1 : (sz + 1).toInt = (s : Int) + 1 := i32_add (by rw [hs]; rfl) (by omega) (by omega)
  have eg : (sz + 1 - Int32.ofNat n).toInt = (s : Int) + 1 - (n : Int) := i32_sub (by rw [es1, en]) (by omega) (by omega)
  have ecap : (Int32.ofNat n + c_shr (Int32.ofNat n) 1).toInt = ((n + n / 2 : Nat) : Int) := i32_add (by rw [en, eh]; omega) (by omega) (by omega)
  have ecl : (Int32.ofNat n + c_shr (Int32.ofNat n) 1).toNatClampNeg = n + n / 2 := i32_cl ecap
  have enl : (Int32.ofNat n).toNatClampNeg = n := i32_cl en
  refine k_166_0 ⟨h5, hx, a, sz, m, e, ha, n, f, (va_ne hax).trans ea, fun hne => ?_, fun heq => ⟨fun hpos => ⟨fun h1 => ⟨fun q => ?_, fun _ => ⟨fun q => ?_, fun _ => ?_⟩⟩, fun q => ?_⟩, fun hz => ⟨?_, fun h1 => ⟨fun q => ?_, fun _ => ?_⟩, fun q => ?_⟩⟩⟩
  · rw [hs, en] at hne
    have hlt : s < n := by omega
    have ha5 : 5 ≤ a := by omega
    refine ⟨ha5, by omega, by omega, y5, hy, cy, ys, (va_ne hyx).trans ey, hk, ?_⟩
    rw [ec]
    refine hK1 hlt _ (fun p h1 h2 => ?_) up_eq ?_
    · rw [va_ne h1, va_ne h2, va_ne h1]
    · rw [va_ne hax, up_eq]
  · exfalso
    rw [ecap] at q
    rw [en] at hpos
    omega
  · exfalso
    rw [ecap] at q
    omega
  · rw [hs, en] at heq
    rw [en] at hpos
    have ha5 : 5 ≤ a := by omega
    have hsn' : s = n := by omega
    obtain ⟨m1, j, m2⟩ := h4
    have m3 : (va_up G x (oC 13 [.ref a, .int sz, .int (m + 1)])) 4 = .inr (.inr j) := (va_ne (by omega)).trans m2
    refine ⟨ha5, ⟨m1, j, m3⟩, ⟨m1, j, m3⟩, by omega, n + n / 2, by omega, ecl, by omega, fun q => ?_, fun _ => ⟨⟨Int.le_refl 0, Int.le_refl 0, by omega, ?_, ?_, fun i hi => ?_⟩, by omega, by omega, y5, by omega, cy, ys, ?_, hk, ?_⟩⟩
    · exfalso
      rw [ecap, en] at q
      omega
    · show 0 + _ ≤ _
      omega
    · show 0 + _ ≤ _
      omega
    · rw [enl] at hi
      show c_el (N + 1) _ (f (0 + i))
      rw [Nat.zero_add]
      intro z ez
      obtain ⟨g1, g2, ci, vs, g3, g4⟩ := hel i (by omega) z ez
      by_cases q : z = x
      · rw [q, e] at g3
        obtain ⟨rfl, -⟩ := oC_inj g3
        exact ⟨g1, by omega, 13, _, (va_ne (by omega)).trans (by rw [q, up_eq]), g4⟩
      · exact ⟨g1, by omega, ci, vs, (va_ne (by omega)).trans ((va_ne q).trans g3), g4⟩
    · rw [va_ne hyx, va_ne (by omega), va_ne (by omega), va_ne hyx]
      exact ey
    · rw [enl, ec]
      refine hK2 hsn' _ (n + n / 2) _ (by omega) (by omega) (by omega) (by omega) (fun p h1 h2 => ?_) up_eq ((va_ne (by omega)).trans up_eq) (fun i hi => ?_) up_eq
      · rw [va_ne h2, va_ne (by omega), va_ne h2, va_ne (by omega), va_ne (by omega), va_ne h2]
      · rw [va_ne (by omega)]
        show (if 0 ≤ i ∧ i < 0 + n then f (0 + (i - 0)) else none) = f i
        rw [if_pos (by omega), Nat.zero_add, Nat.sub_zero]
  · exfalso
    rw [eh, eg] at q
    rw [hs, en] at heq
    rw [en] at hpos
    omega
  · intro q
    rw [en] at hz
    omega
  · exfalso
    rw [es1] at q
    rw [hs, en] at heq
    rw [en] at hz
    omega
  · rw [hs, en] at heq
    rw [en] at hz
    refine ⟨by omega, by omega, by omega, y5, by omega, cy, ys, ?_, hk, ?_⟩
    · rw [va_ne hyx, va_ne (by omega), va_ne hyx]
      exact ey
    · rw [ec]
      refine hK2 (by omega) _ 10 _ (by omega) (by omega) (by omega) (by omega) (fun p h1 h2 => ?_) up_eq ((va_ne (by omega)).trans up_eq) (fun i hi => ?_) up_eq
      · rw [va_ne h2, va_ne (by omega), va_ne h2, va_ne (by omega), va_ne h2]
      · omega
  · exfalso
    rw [en] at hz
    omega
end QL
section QK
variable {N N1 u c : Nat} {G G1 : Nat → sx_C} {K : Option Value ⊕ Nat → Nat → (Nat → sx_C) → Nat → Nat → Prop}
/-- cells behind the last one come to be -/
theorem q_UR.new (hN : N ≤ N1) (h12 : 12 < N) (e : ∀ p, p < N → G1 p = G p) : q_UR N G N1 G1 := by
  refine ⟨q_sl.of hN e, fun p hp _ => e p hp, fun p hp h => ?_⟩
  rcases h with h | ⟨a, s, m, h, q⟩ | ⟨fs, h⟩ | ⟨f, h⟩
  · exact Or.inl h
  · exact Or.inr (Or.inl ⟨a, s, m, (e 12 h12).symm.trans h, q⟩)
  · exact Or.inr (Or.inr (Or.inl ⟨fs, (e p hp).symm.trans h⟩))
  · exact Or.inr (Or.inr (Or.inr ⟨f, (e p hp).symm.trans h⟩))
theorem q_uI.new (h : q_uI N G u c) (hN : N ≤ N1) (e : ∀ p, p < N → G1 p = G p) (hc : ∀ p, N ≤ p → p < N1 → q_ok N1 G1 p (G1 p)) : q_uI N1 G1 u c := by
  have s : q_sl N G N1 G1 := q_sl.of hN e
  have h64 := h.2.1.1
  refine ⟨h.1.gen s (fun p h5 hp => ?_), h.2.1.sl s, h.2.2.1.fr s (e 13 (by omega)), h.2.2.2.1.fr s (e 10 (by omega)), h.2.2.2.2.fr s (e 11 (by omega)) (e 12 (by omega)) (fun a z m ea => ?_)⟩
  · by_cases q : p < N
    · exact Or.inl ⟨q, e p q⟩
    · exact Or.inr (hc p (by omega) hp)
  · obtain ⟨n, f, -, g⟩ := h.2.2.2.2.a4 ea
    exact e a g
/-- a new Node -/
theorem q_uI.node (h : q_uI N G u c) : q_uI (N + 1 + 1) (va_up (va_up (va_up G N (oC 10 [.null, .int 0, .int 0, .int 0, .null])) (N + 1) (aC 6 3 (fun _ => none))) N (oC 10 [.ref (N + 1), .int 0, .int 0, .int 0, .null])) u c ∧ q_UR N G (N + 1 + 1) (va_up (va_up (va_up G N (oC 10 [.null, .int 0, .int 0, .int 0, .null])) (N + 1) (aC 6 3 (fun _ => none))) N (oC 10 [.ref (N + 1), .int 0, .int 0, .int 0, .null])) := by
  have h64 := h.2.1.1
  have e : ∀ p, p < N → (va_up (va_up (va_up G N (oC 10 [.null, .int 0, .int 0, .int 0, .null])) (N + 1) (aC 6 3 (fun _ => none))) N (oC 10 [.ref (N + 1), .int 0, .int 0, .int 0, .null])) p = G p := fun p hp => by
    rw [va_ne (by omega), va_ne (by omega), va_ne (by omega)]
  refine ⟨h.new (by omega) e (fun p h1 h2 => ?_), q_UR.new (by omega) (by omega) e⟩
  by_cases q : p = N
  · rw [q, up_eq]
    refine q_ok.nd ⟨0, 0, 0, none, rfl, by omega, ⟨fun _ => none, ?_⟩, Int.le_refl 0, (by decide), fun i hi => ?_, q_oo.none, fun z => absurd rfl z⟩
    · rw [va_ne (by omega), up_eq]
    · have hi' : (i : Int) < 0 := hi
      omega
  · have q1 : p = N + 1 := by omega
    rw [q1, va_ne (by omega), up_eq]
    exact q_ok.a6 (fun j => q_oo.none)
set_option maxHeartbeats 1000000 in
theorem c_make {k v : Int32} (h : q_uI N G u c) (hu : u + 1 ≤ 20000) (hkv : k.toInt ≠ 0 → k.toInt ≠ 1 → 0 ≤ v.toInt ∧ v.toInt ≤ 255) (hK : ∀ y N1 G1 kc ks c1, q_uI N1 G1 (u + 1) c1 → q_UR N G N1 G1 → q_ob N1 G1 y 10 → kc + c ≤ c1 → ks + 8 * c ≤ 8 * c1 → K (.inl (some (.ref y))) N1 G1 kc ks) : cT 8 sM_59 0 [(0, .ref 11), (1, .int k), (2, .int v)] [] N G K := by
  have h64 := h.2.1.1
  obtain ⟨us, vr, sz, m, a, n, s, f, h1, h2, h3, h4, h5, h6, h7, h8, h9, h10, h11, h12, h13⟩ := h.2.2.2.2
  have eu : us.toNatClampNeg = u := i32_cl h2
  have eu1 : (us + 1).toInt = ((u + 1 : Nat) : Int) := by
    rw [i32_succ (by omega) (by omega), h2]
    omega
  refine k_59_0 ⟨by omega, us, vr, h1, by omega, a, sz, m, h3, fun hlt => ⟨fun q => ?_, fun _ => ⟨fun _ => ?_, fun q => ?_⟩⟩, fun hge => ⟨by omega, ?_⟩⟩
  · omega
  · obtain ⟨y, g1, g2⟩ := h9 u (by omega)
    obtain ⟨k0, v0, s0, o0, f0, e0, -⟩ := h.1.nd g2
    refine ⟨h7, n, f, h8, by omega, by omega, y, by rw [eu]; exact g1, g2.1, g2.2.1, k0, v0, s0, o0, e0, ?_⟩
    obtain ⟨i1, r1⟩ := h.e11 (u1 := u + 1) (vr := vr) eu1 (fun sz' a' m' e' => by
      have := (oC_inj (h3.symm.trans e')).2
      cases this
      omega)
    obtain ⟨i2, r2⟩ := i1.en (k := k) (v := v) (s := 0) (o := none) (g2.sl r1.1) (Int.le_refl 0) (by decide) (fun i hi => by
      have hi' : (i : Int) < 0 := hi
      omega) q_oo.none hkv
    exact hK y _ _ 0 0 c i2 (r1.trans r2) ((g2.sl r1.1).sl r2.1) (by omega) (by omega)
  · omega
  · have hsu : s = u := by omega
    obtain ⟨i1, r1⟩ := h.node
    have eo : ∀ p, p < N → (va_up (va_up (va_up G N (oC 10 [.null, .int 0, .int 0, .int 0, .null])) (N + 1) (aC 6 3 (fun _ => none))) N (oC 10 [.ref (N + 1), .int 0, .int 0, .int 0, .null])) p = G p := fun p hp => by
      rw [va_ne (by omega), va_ne (by omega), va_ne (by omega)]
    have eN : (va_up (va_up (va_up G N (oC 10 [.null, .int 0, .int 0, .int 0, .null])) (N + 1) (aC 6 3 (fun _ => none))) N (oC 10 [.ref (N + 1), .int 0, .int 0, .int 0, .null])) N = oC 10 [.ref (N + 1), .int 0, .int 0, .int 0, .null] := up_eq
    generalize (va_up (va_up (va_up G N (oC 10 [.null, .int 0, .int 0, .int 0, .null])) (N + 1) (aC 6 3 (fun _ => none))) N (oC 10 [.ref (N + 1), .int 0, .int 0, .int 0, .null])) = G0 at i1 r1 eo eN ⊢
    obtain ⟨j, hm⟩ := i1.2.1.2.1
    have oN : q_ob (N + 1 + 1) G0 N 10 := ⟨by omega, by omega, _, eN⟩
    have hend : ∀ (N1 : Nat) (G1 : Nat → sx_C) (kc ks a1 n1 : Nat) (f1 : Nat → Option Nat), q_UR (N + 1 + 1) G0 N1 G1 → q_uI N1 G1 u (2 * (s + 1) + n1) → G1 11 = oC 4 [.ref 12, .int us, .int vr] → G1 12 = oC 13 [.ref a1, .int (sz + 1), .int (m + 1)] → a1 < N1 → G1 a1 = aC 4 n1 f1 → s < n1 → f1 s = some N → kc + n ≤ n1 → ks + 8 * n ≤ 8 * n1 + 8 →
        (∃ v42 : Int32, (Sum.inl (some (.int 1)) : Option Value ⊕ Nat) = .inl (some (.int v42)) ∧ 11 < N1 ∧ ∃ (i43_1 : Int32) (i43_2 : Int32), G1 11 = .inr (.inl (4, [.ref 12, .int i43_1, .int i43_2])) ∧ 12 < N1 ∧ ∃ (r44_0 : Nat) (i44_1 : Int32) (i44_2 : Int32), G1 12 = .inr (.inl (13, [.ref r44_0, .int i44_1, .int i44_2])) ∧ ((i43_1.toInt < 0 → False) ∧ (0 ≤ i43_1.toInt → ((i43_1.toInt < i44_1.toInt → r44_0 < N1 ∧ ∃ (n47 : Nat) (f47 : Nat → Option Nat), G1 r44_0 = .inl (4, (n47, .inr (.inr (.inr (.inr f47))))) ∧ 0 ≤ i43_1.toInt ∧ i43_1.toInt < (n47 : Nat) ∧ ∃ x49, f47 i43_1.toNatClampNeg = some x49 ∧ 5 ≤ x49 ∧ x49 < N1 ∧ ∃ (i50_1 : Int32) (i50_2 : Int32) (i50_3 : Int32) (o50_4 : Option Nat), G1 x49 = .inr (.inl (10, [.ref (x49 + 1), .int i50_1, .int i50_2, .int i50_3, va_rf o50_4])) ∧ K (.inl (some (.ref x49))) (N1) (va_up (va_up G1 11 (.inr (.inl (4, [.ref 12, .int (i43_1 + 1), .int i43_2])))) x49 (.inr (.inl (10, [.ref (x49 + 1), .int k, .int v, .int 0, .null])))) (kc + 2) (ks + 8)) ∧ (i44_1.toInt ≤ i43_1.toInt → False))))) := by
      intro N1 G1 kc ks a1 n1 f1 r2 i2 e11 e12 ha1 ea1 hs1 ef1 hkc hks
      have h641 := i2.2.1.1
      have es1 : (sz + 1).toInt = (s : Int) + 1 := by rw [i32_succ (by omega) (by omega), h4]
      have oN1 := oN.sl r2.1
      obtain ⟨k0, v0, s0, o0, f0, e0, -⟩ := i2.1.nd oN1
      refine ⟨1, rfl, by omega, us, vr, e11, by omega, a1, sz + 1, m + 1, e12, fun q => by omega, fun _ => ⟨fun _ => ⟨ha1, n1, f1, ea1, by omega, by omega, N, by rw [eu, ← hsu]; exact ef1, by omega, oN1.2.1, k0, v0, s0, o0, e0, ?_⟩, fun q => by omega⟩⟩
      obtain ⟨i3, r3⟩ := i2.e11 (u1 := u + 1) (vr := vr) eu1 (fun sz' a' m' e' => by
        have := (oC_inj (e12.symm.trans e')).2
        cases this
        omega)
      obtain ⟨i4, r4⟩ := i3.en (k := k) (v := v) (s := 0) (o := none) (oN1.sl r3.1) (Int.le_refl 0) (by decide) (fun i hi => by
        have hi' : (i : Int) < 0 := hi
        omega) q_oo.none hkv
      exact hK N _ _ _ _ _ i4 (((r1.trans r2).trans r3).trans r4) ((oN1.sl r3.1).sl r4.1) (by omega) (by omega)
    have e12 := (eo 12 (by omega)).trans h3
    have e11 := (eo 11 (by omega)).trans h1
    have eA := (eo a h7).trans h8
    have hel0 : ∀ i, i < s → ∃ y, f i = some y ∧ q_ob (N + 1 + 1) G0 y 10 := fun i hi => by
      obtain ⟨y, g1, g2⟩ := h9 i hi
      exact ⟨y, g1, g2.sl r1.1⟩
    refine c_ladd (cy := 10) (s := s) ⟨by omega, j, hm⟩ (by decide) (by omega) e12 h4 (by omega) eA h10 (by omega) (by omega) (fun i hi => ?_) (by omega) (by omega) eN (by omega) rfl (fun hlt G1 g1 g2 g3 => ?_) (fun heq G1 n1 f1 q1 q2 q3 q4 g1 g2 g3 g4 g5 => ?_)
    · obtain ⟨y, g1, g2⟩ := hel0 i hi
      intro z ez
      rw [g1] at ez
      cases ez
      obtain ⟨b1, b2, fs, b3⟩ := g2
      exact ⟨b1, b2, 10, fs, b3, rfl⟩
    · have ha5 : 64 < a := by omega
      have s1 : q_sl (N + 1 + 1) G0 (N + 1 + 1) G1 := by
        refine ⟨Nat.le_refl _, fun p hp => ?_⟩
        by_cases p12 : p = 12
        · rw [p12, g2]
          exact q_le.ob e12 (by decide)
        · by_cases pa : p = a
          · rw [pa, g3]
            exact q_le.a4 eA (Or.inl (by decide))
          · rw [g1 p p12 pa]
            exact q_le.rfl'
      have r2 : q_UR (N + 1 + 1) G0 (N + 1 + 1) G1 := by
        refine ⟨s1, fun p hp hU => g1 p (fun q => hU (Or.inl (by omega))) (fun q => hU (Or.inr (Or.inl ⟨a, _, _, e12, q, by omega⟩))), fun p hp hU => ?_⟩
        by_cases p12 : p = 12
        · exact Or.inl (by omega)
        · by_cases pa : p = a
          · exact Or.inr (Or.inl ⟨a, _, _, e12, pa, by omega⟩)
          · rcases hU with hU | ⟨b, z, w, hU, q⟩ | ⟨fs, hU⟩ | ⟨f', hU⟩
            · exact Or.inl hU
            · rw [g2] at hU
              have := (oC_inj hU).2
              cases this
              exact absurd q.1 pa
            · exact Or.inr (Or.inr (Or.inl ⟨fs, (g1 p p12 pa).symm.trans hU⟩))
            · exact Or.inr (Or.inr (Or.inr ⟨f', (g1 p p12 pa).symm.trans hU⟩))
      have hi2 : q_uI (N + 1 + 1) G1 u (2 * (s + 1) + n) := by
        refine ⟨i1.1.gen s1 (fun p h5 hp => ?_), i1.2.1.sl s1, i1.2.2.1.fr s1 (g1 13 (by decide) (by omega)), i1.2.2.2.1.fr s1 (g1 10 (by decide) (by omega)), us, vr, sz + 1, m + 1, a, n, s + 1, _, (g1 11 (by decide) (by omega)).trans e11, h2, g2, ?_, by omega, by omega, by omega, g3, fun i hi => ?_, by omega, by omega, by omega, by omega⟩
        · by_cases p12 : p = 12
          · rw [p12, g2]
            exact Or.inr (q_ok.ot (by decide) (by decide) (by decide))
          · by_cases pa : p = a
            · rw [pa, g3]
              exact Or.inr (q_ok.a (by decide) (by decide))
            · exact Or.inl ⟨hp, g1 p p12 pa⟩
        · rw [i32_succ (by omega) (by omega), h4]
          omega
        · by_cases q : i = s
          · rw [q]
            exact ⟨N, up_eq, oN.sl s1⟩
          · obtain ⟨y, b1, b2⟩ := hel0 i (by omega)
            exact ⟨y, (va_ne q).trans b1, b2.sl s1⟩
      exact hend _ _ 0 0 a n _ r2 hi2 ((g1 11 (by decide) (by omega)).trans e11) g2 (by omega) g3 hlt up_eq (by omega) (by omega)
    · have s1 : q_sl (N + 1 + 1) G0 (N + 1 + 1 + 1) G1 := by
        refine ⟨by omega, fun p hp => ?_⟩
        by_cases p12 : p = 12
        · rw [p12, g2]
          exact q_le.ob e12 (by decide)
        · rw [g1 p hp p12]
          exact q_le.rfl'
      have r2 : q_UR (N + 1 + 1) G0 (N + 1 + 1 + 1) G1 := by
        refine ⟨s1, fun p hp hU => g1 p hp (fun q => hU (Or.inl (by omega))), fun p hp hU => ?_⟩
        by_cases p12 : p = 12
        · exact Or.inl (by omega)
        · rcases hU with hU | ⟨b, z, w, hU, q⟩ | ⟨fs, hU⟩ | ⟨f', hU⟩
          · exact Or.inl hU
          · rw [g2] at hU
            have := (oC_inj hU).2
            cases this
            omega
          · exact Or.inr (Or.inr (Or.inl ⟨fs, (g1 p hp p12).symm.trans hU⟩))
          · exact Or.inr (Or.inr (Or.inr ⟨f', (g1 p hp p12).symm.trans hU⟩))
      have hi2 : q_uI (N + 1 + 1 + 1) G1 u (2 * (s + 1) + n1) := by
        refine ⟨i1.1.gen s1 (fun p h5 hp => ?_), i1.2.1.sl s1, i1.2.2.1.fr s1 (g1 13 (by omega) (by decide)), i1.2.2.2.1.fr s1 (g1 10 (by omega) (by decide)), us, vr, sz + 1, m + 1, N + 1 + 1, n1, s + 1, f1, (g1 11 (by omega) (by decide)).trans e11, h2, g2, ?_, by omega, by omega, by omega, g3, fun i hi => ?_, by omega, by omega, by omega, by omega⟩
        · by_cases p12 : p = 12
          · rw [p12, g2]
            exact Or.inr (q_ok.ot (by decide) (by decide) (by decide))
          · by_cases pa : p = N + 1 + 1
            · rw [pa, g3]
              exact Or.inr (q_ok.a (by decide) (by decide))
            · exact Or.inl ⟨by omega, g1 p (by omega) p12⟩
        · rw [i32_succ (by omega) (by omega), h4]
          omega
        · by_cases q : i = s
          · rw [q]
            exact ⟨N, g5, oN.sl s1⟩
          · obtain ⟨y, b1, b2⟩ := hel0 i (by omega)
            exact ⟨y, (g4 i (by omega)).trans b1, b2.sl s1⟩
      exact hend _ _ 1 n1 (N + 1 + 1) n1 f1 r2 hi2 ((g1 11 (by omega) (by decide)).trans e11) g2 (by omega) g3 (by omega) g5 (by omega) (by omega)
theorem c_makeV (h : q_uI N G u c) (hu : u + 1 ≤ 20000) (hK : ∀ y N1 G1 kc ks c1, q_uI N1 G1 (u + 1) c1 → q_UR N G N1 G1 → q_ob N1 G1 y 10 → kc + c ≤ c1 → ks + 8 * c ≤ 8 * c1 → K (.inl (some (.ref y))) N1 G1 kc ks) : cT 9 sM_58 0 [(0, .ref 11)] [] N G K := by
  have h64 := h.2.1.1
  obtain ⟨us, vr, sz, m, a, n, s, f, h1, h2, h3, h4, h5, h6, h7, h8, h9, h10, h11, h12, h13⟩ := h.2.2.2.2
  refine k_58_0 ⟨by omega, us, vr, h1, ?_⟩
  obtain ⟨i1, r1⟩ := h.e11 (u1 := u) (us := us) (vr := vr + 1) h2 (fun sz' a' m' e' => by
    have := (oC_inj (h3.symm.trans e')).2
    cases this
    omega)
  exact c_make i1 hu (fun z => absurd rfl z) (fun y N1 G1 kc ks c1 g1 g2 g3 g4 g5 => ⟨some y, rfl, hK y N1 G1 kc ks c1 g1 (r1.trans g2) g3 g4 g5⟩)
end QK
