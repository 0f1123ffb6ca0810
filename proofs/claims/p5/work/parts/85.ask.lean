/-! THE CALLS of the class: drop, ask -/
section QAk
variable {F : Nat → Prop} {T : Nat → Int32} {N n s P : Nat} {G : Nat → sx_C} {K : Option Value ⊕ Nat → Nat → (Nat → sx_C) → Nat → Nat → Prop}
set_option maxHeartbeats 2000000 in
theorem j_Drop {p1 : Int32} (h : q_cI N G F T n s P)
    (hKT : 0 ≤ p1.toInt → p1.toInt < (s : Int) → ∀ G1 s1, s1 + 1 = s → q_cI N G1 F T n s1 P → q_fr G G1 → K (.inl none) N G1 0 0)
    (hKF : (p1.toInt < 0 ∨ (s : Int) ≤ p1.toInt) → ∀ G1, q_cI (N + 1) G1 F T n s P → q_fr G G1 → G1 N = .inr (.inr 0) → K (.inr N) (N + 1) G1 1 6) : cT 6 sM_44 0 [(0, .ref 5), (1, .int p1)] [] N G K := by
  have hz := h.z
  have h64 := hz.1
  have hx := h.exc (j := 0)
  obtain ⟨u, c, mk, nb, cnt, a, nn, pl, sz, m, f, hJ, hP⟩ := id h
  obtain ⟨hI, hB, h0, e5, ⟨k1, k2, k3, k4, k5, k6, k7, k8, k9, k10, k11⟩, hF⟩ := id hJ
  obtain ⟨ln, at_, d1, d2, d5, d6⟩ := id h0
  refine k_44_0 ⟨fun hn => hKF (Or.inl hn) _ hx.1 hx.2 up_eq, fun hn => ⟨by omega, pl, e5, by omega, a, sz, m, k1, fun hlt => ?_, fun hge => hKF (Or.inr (by omega)) _ hx.1 hx.2 up_eq⟩⟩
  have ha64 : 64 < a := by omega
  have a8 : a ≠ 8 := by omega
  obtain ⟨s1, es1, hs1⟩ := i32_m1 (x := sz) (by omega) (by omega)
  have e1 : (p1 + 1).toInt = p1.toInt + 1 := i32_succ hn (by omega)
  obtain ⟨dd, edd, hdd⟩ : ∃ y : Int32, s1 - p1 = y ∧ y.toInt = s1.toInt - p1.toInt := ⟨_, rfl, i32_sub rfl (by omega) (by omega)⟩
  have ep : p1.toNatClampNeg = p1.toInt.toNat := rfl
  have ep1 : (p1 + 1).toNatClampNeg = p1.toInt.toNat + 1 := i32_cl (by omega)
  have es : s1.toNatClampNeg = s - 1 := i32_cl (by omega)
  have ed : dd.toNatClampNeg = s - 1 - p1.toInt.toNat := i32_cl (by omega)
  -- what stands once the CLAUSE is gone
  have fin : ∀ (G2 : Nat → sx_C) (f2 : Nat → Option Nat), (∀ q, q ≠ 8 → q ≠ a → G2 q = G q) → G2 8 = oC 13 [.ref a, .int s1, .int (m + 1)] → G2 a = aC 4 nn f2 → (∀ i, i < s - 1 → f2 i = f i ∨ f2 i = f (i + 1)) → K (.inl none) N G2 0 0 := by
    intro G2 f2 z1 z2 z3 z4
    have uF : ∀ q, F q → G2 q = G q := fun q z => by
      obtain ⟨y1, y2, y3, y4, y5, y6, y7, y8⟩ := hF.1 q z
      exact z1 q y7 (fun w => by have := y8 w; omega)
    have hw : q_cJ N G2 F T n (s - 1) u c mk nb cnt a nn pl s1 (m + 1) f2 ∧ q_fr G G2 := by
      refine hJ.any (N1 := N) (F1 := F) (Nat.le_refl N) (fun q hq _ _ _ q8 qa => z1 q q8 (fun w => by have := qa w; omega)) (fun q q1 q2 => by omega) ((z1 5 (by decide) (by omega)).trans e5) ⟨ln, at_, (z1 6 (by decide) (by omega)).trans d1, d2, d5, (z1 7 (by decide) (by omega)).trans d6⟩ z2 (by omega) (by omega) k4 z3 (by omega) k7 k8 (Or.inl rfl) ⟨_, z3⟩ (fun q z => Or.inl z) (fun q z => z) (fun i hi => ?_)
      rcases z4 i hi with z | z
      · obtain ⟨x, x1, x2⟩ := k9 i (by omega)
        exact ⟨x, z.trans x1, x2.fr (Nat.le_refl N) (fun _ z => z) uF⟩
      · obtain ⟨x, x1, x2⟩ := k9 (i + 1) (by omega)
        exact ⟨x, z.trans x1, x2.fr (Nat.le_refl N) (fun _ z => z) uF⟩
    exact hKT hn (by omega) G2 (s - 1) (by omega) ⟨u, c, mk, nb, cnt, a, nn, pl, s1, m + 1, f2, hw.1, hP⟩ hw.2
  obtain ⟨x6, x61, x62⟩ := k9 p1.toInt.toNat (by omega)
  refine k_175_0 ⟨by omega, by omega, a, sz, m, k1, fun q => by omega, fun _ => ⟨fun _ => ⟨k4, nn, f, k5, hn, by omega, x6, x61, ?_⟩, fun q => by omega⟩⟩
  rw [es1, edd, ep1, es, ed, ep]
  refine ⟨fun hlast => ⟨by omega, by omega, by omega, some x6, rfl, ?_⟩, fun hmid => ⟨by omega, ⟨by omega, by omega, by omega, by omega, by omega, fun i hi => ?_⟩, by omega, by omega, some x6, rfl, ?_⟩⟩
  · refine fin _ _ (fun q q8 qa => (va_ne qa).trans (va_ne q8)) ((va_ne (Ne.symm a8)).trans up_eq) up_eq (fun i hi => Or.inl (va_ne (by omega)))
  · obtain ⟨x, x1, x2⟩ := k9 (p1.toInt.toNat + 1 + i) (by omega)
    intro z ez
    rw [x1] at ez
    cases ez
    obtain ⟨x5, xN, xF, t', g', l', m1', m2', w1', w2', w3', ex', -⟩ := x2
    exact ⟨x5, xN, 8, _, (va_ne (hF.1 x xF).2.2.2.2.2.2.1).trans ex', rfl⟩
  · refine fin _ _ (fun q q8 qa => by rw [va_ne qa, va_ne q8, va_ne qa, va_ne q8]) ((va_ne (Ne.symm a8)).trans up_eq) up_eq (fun i hi => ?_)
    rw [va_ne (by omega)]
    unfold va_cpy
    split
    · right
      congr 1
      omega
    · exact Or.inl rfl
set_option maxHeartbeats 2000000 in
theorem j_Ask (h : q_cI N G F T n s P)
    (hKT : ∀ M, pQ T n = some M → ∀ (v : Int32) N1 G1 F1 kc ks P1, q_cI N1 G1 F1 T 0 s P1 → q_fr G G1 → N ≤ N1 → q_ro P P1 kc ks → v.toInt = (M : Int) → K (.inl (some (.int v))) N1 G1 kc ks)
    (hKF : pQ T n = none → ∀ r N1 G1 F1 kc ks P1, q_cI N1 G1 F1 T 0 s P1 → q_fr G G1 → N ≤ N1 → q_ro P P1 kc ks → q_ex r N1 G1 0 → K r N1 G1 kc ks) : cT 65 sM_46 0 [(0, .ref 5)] [] N G K := by
  have hz := h.z
  have h64 := hz.1
  obtain ⟨u, c, mk, nb, cnt, a, nn, pl, sz, m, f, hJ, hP⟩ := id h
  obtain ⟨hI, hB, h0, e5, ⟨k1, k2, k3, k4, k5, k6, k7, k8, k9, k10, k11⟩, hF⟩ := id hJ
  obtain ⟨ln, at_, d1, d2, d5, d6⟩ := id h0
  obtain ⟨f1, h1⟩ := hI.Z.2.a 1 4 0 rfl
  refine k_46_0 ⟨by omega, pl, e5, by omega, ln, at_, d1, j_quest h64 h0 hI.Z.2.2.1 ⟨f1, h1⟩ (fun N5 G5 M w kc ks t1 t2 t3 t4 t5 t6 t7 t8 => ?_) (fun N5 G5 kc ks t1 t2 t3 t4 t5 => ?_)⟩
  · obtain ⟨e, t3⟩ := t3
    obtain ⟨ln5, at5, r1, r2, r3, r4, r5, r6⟩ := t3
    have hN5 := t2.1
    have un : ∀ q, q < N → q ≠ 6 → G5 q = G q := fun q hq q6 => t2.2.1 q hq q6
    have e55 := (un 5 (by omega) (by decide)).trans e5
    have a6 : a ≠ 6 := fun q => by
      rw [q, d1] at k5
      exact oa_ne k5
    refine ⟨some N, rfl, by omega, pl, e55, by omega, ln5, at5, r1, fun q => (by cases q), fun x ex => ?_⟩
    cases ex
    have e6 : ∀ q, q ≠ 6 → (va_up G5 6 (oC 1 [.ref 7, .int 0, .int at5])) q = G5 q := fun q z => va_ne z
    have e66 : (va_up G5 6 (oC 1 [.ref 7, .int 0, .int at5])) 6 = oC 1 [.ref 7, .int 0, .int at5] := up_eq
    generalize (va_up G5 6 (oC 1 [.ref 7, .int 0, .int at5])) = H at e6 e66 ⊢
    have uu : ∀ q, q < N → q ≠ 6 → H q = G q := fun q hq q6 => (e6 q q6).trans (un q hq q6)
    have hw : q_cJ N5 H (fun q => F q ∨ q_f1 N N5 q) T 0 s u c mk nb cnt a nn pl sz m f ∧ q_fr G H := by
      refine hJ.any (N1 := N5) (by omega) (fun q hq _ q6 _ _ _ => uu q hq q6) (fun q q1 q2 => ?_) ((uu 5 (by omega) (by decide)).trans e5) ⟨0, at5, e66, rfl, by omega, (e6 7 (by decide)).trans r6⟩ ((uu 8 (by omega) (by decide)).trans k1) k2 k3 (by omega) ((uu a k4 a6).trans k5) k6 k7 k8 (Or.inl rfl) ⟨f, (uu a k4 a6).trans k5⟩ (fun q z => ?_) (fun q z => Or.inl z) (fun i hi => ?_)
      · rw [e6 q (by omega)]
        exact Or.inl (t2.2.2.1 q q1 q2)
      · rcases z with z | z | z
        · exact Or.inl z
        · exact Or.inr ⟨z.1, z.2, by have := z.1; omega⟩
        · rw [z]
          exact Or.inl hF.2.1
      · obtain ⟨q, z1, z2⟩ := k9 i hi
        exact ⟨q, z1, z2.fr (by omega) (fun q z => Or.inl z) (fun q z => uu q (hF.1 q z).1 (hF.1 q z).2.2.2.2.1)⟩
    obtain ⟨hJ2, hfr2⟩ := hw
    have hLi : q_Li (fun q => F q ∨ q_f1 N N5 q) N5 H true N M w := t4.fr (Nat.le_refl _) (fun q z => Or.inr z) (fun q z => e6 q (by
      rcases z with z | z
      · have := z.1
        omega
      · omega))
    obtain ⟨sp, hn2, -⟩ := id hJ2.1
    obtain ⟨st, sl, e9⟩ := hn2.2.1
    refine ⟨by omega, st, sp, sl, e9, j_begin hJ2.1 (fun q z => ⟨(hJ2.2.2.2.2.2.1 q z).1, (hJ2.2.2.2.2.2.1 q z).2.1⟩) hLi t6 t5 (fun N2 G2 kc2 ks2 u2 c2 mk2 v1 v2 v3 v4 => ⟨rfl, ?_⟩)⟩
    obtain ⟨hJ3, hfr3⟩ := hJ2.nr v1 v2
    obtain ⟨L5, LN, LF, a', n', sz', mc', f', ws', l1, l2, -⟩ := id hLi
    have hN2 := v2.1.1
    have eL : G2 N = _ := (v2.2.1 N LN (hJ2.2.2.2.2.2.1 N LF).2.1).trans l1
    exact ⟨L5, by omega, a', sz', mc', eL, hKT M t1 sz' N2 G2 _ _ _ (c2 + 3 * mk2 + nb + nn) ⟨u2, c2, mk2, nb, cnt, a, nn, pl, sz, m, f, hJ3, rfl⟩ (fun q z => (hfr3 q z).trans (hfr2 q z)) (by omega) ⟨by omega, by omega⟩ l2⟩
  · obtain ⟨e, t3⟩ := t3
    obtain ⟨ln5, at5, r1, r2, r3, r4, r5, r6⟩ := t3
    have hN5 := t2.1
    have un : ∀ q, q < N → q ≠ 6 → G5 q = G q := fun q hq q6 => t2.2.1 q hq q6
    have e55 := (un 5 (by omega) (by decide)).trans e5
    refine ⟨none, rfl, by omega, pl, e55, by omega, ln5, at5, r1, fun _ => ?_, fun x ex => (by cases ex)⟩
    obtain ⟨w1, w2⟩ := q_addF hJ t2 r6 at5
    exact hKF t1 _ _ _ _ _ _ P ⟨u, c, mk, nb, cnt, a, nn, at5, sz, m, f, w1, hP⟩ w2 (by omega) ⟨by omega, by omega⟩ ⟨N5, rfl, by omega, by omega, up_eq⟩
end QAk
