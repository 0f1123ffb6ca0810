/-! GuardNet.spell, letter, sleeping, count -/
section QL2
variable {N N1 u c mk n cnt b y : Nat} {G G1 : Nat → sx_C} {K : Option Value ⊕ Nat → Nat → (Nat → sx_C) → Nat → Nat → Prop}
theorem q_rI.Z (h : q_rI N G u c mk) : q_TH N G ∧ q_Z N G := by
  obtain ⟨sp, hn, -⟩ := h
  exact ⟨hn.1.1, hn.1.2.1⟩
theorem q_B.nX {p : Nat} (h : q_B N G n cnt) (hp : p ≠ 31) (hb : (∃ ci fs, G p = oC ci fs) ∨ ∃ t k f, G p = aC t k f) : ¬ q_X G p := by
  obtain ⟨b, ml, ct, f, p1, p2, p3, p4, p5, -⟩ := h
  intro q
  rcases q with q | ⟨b2, x, y, z, q1, q2⟩
  · exact hp q
  · have := (oC_inj (p1.symm.trans q1)).2
    cases this
    rw [q2, p5] at hb
    rcases hb with ⟨ci, fs, g⟩ | ⟨t, k, f, g⟩
    · cases g
    · cases g
set_option maxHeartbeats 2000000 in
theorem j_spell {pl : Int32} : ∀ (m N : Nat) (G : Nat → sx_C) (n cnt y : Nat) (p2 : Int32) (K : Option Value ⊕ Nat → Nat → (Nat → sx_C) → Nat → Nat → Prop), q_lI N G u c mk n cnt → G 5 = oC 0 [.ref 6, .int pl, .ref 8, .ref 9, .ref 31] → q_ob N G y 10 → p2.toInt + (m : Int) = 42 → m ≤ 41 → cnt ≤ 270 → (∀ N1 G1 kc ks n1 cnt1, q_lI N1 G1 u c mk n1 cnt1 → q_LR N G N1 G1 → (80 ≤ cnt → cnt1 = cnt) → (cnt < 80 → cnt1 ≤ 91 + 4 * m) → n ≤ n1 → kc + n ≤ n1 → ks + 8 * n ≤ 8 * n1 → K (.inl none) N1 G1 kc ks) → cT (7 * (m + 1)) sM_104 0 [(0, .ref 5), (1, .ref y), (2, .int p2)] [] N G K := by
  intro m
  induction m with
  | zero =>
    intro N G n cnt y p2 K h e5 hy hp2 hm hc hK
    show cT (0 + 7) sM_104 0 _ _ _ _ _
    have h64 := h.1.Z.2.1
    obtain ⟨b, ml, ct, f, p1', q2, -⟩ := id h.2
    have ret : K (.inl none) N G 0 0 := hK N G 0 0 n cnt h q_LR.rfl' (fun _ => rfl) (fun _ => by omega) (by omega) (by omega) (by omega)
    exact k_104_0 ⟨by omega, pl, e5, by omega, b, 0, ml, ct, p1', fun _ => ret, fun _ => ⟨fun q => by omega, fun _ => ret⟩⟩
  | succ m ih =>
    intro N G n cnt y p2 K h e5 hy hp2 hm hc hK
    have h64 := h.1.Z.2.1
    obtain ⟨b, ml, ct, f, p1', q2, -⟩ := id h.2
    have ret : 80 ≤ cnt → K (.inl none) N G 0 0 := fun q => hK N G 0 0 n cnt h q_LR.rfl' (fun _ => rfl) (fun _ => by omega) (by omega) (by omega) (by omega)
    obtain ⟨a1, a2, a3, a4, -, b1, -⟩ := h.1.Z.1.nd hy
    show cT (7 * (m + 1) + 7) sM_104 0 _ _ _ _ _
    refine k_104_0 ⟨by omega, pl, e5, by omega, b, 0, ml, ct, p1', fun q => ret (by omega), fun hlt => ⟨fun _ => ⟨hy.1, hy.2.1, a1, a2, a3, a4, b1, c_at h.1.Z.1 hy (fun z hz => ⟨rfl, rfl, rfl, rfl, some z, rfl, fun q => (by cases q), fun x7 ex => ?_⟩)⟩, fun q => by omega⟩⟩
    cases ex
    obtain ⟨z1, z2, z3, z4, fz, z5, z6, z7, z8, z9, z10, z11, z12, z13⟩ := h.1.Z.1.nd hz
    have zX : ¬ q_X G z := h.2.nX (h.1.Z.2.ne hz 31 14 rfl (by decide)) (Or.inl ⟨_, _, z5⟩)
    have X5 : ¬ q_X G 5 := h.2.nX (by decide) (Or.inl ⟨_, _, e5⟩)
    refine ⟨hz.1, hz.2.1, z1, z2, z3, z4, z5, fun hk0 => ⟨fun hk1 => ?_, fun hk1 => ?_⟩, fun hk0 => ?_⟩
    · obtain ⟨v0, v255⟩ := h.1.Z.1.kv hz z5 hk0 hk1
      have ev : (UInt32.toInt32 (Int32.toUInt32 z2 % 65536)).toInt ≤ 255 := by
        have e := pk_char z2
        rw [e]
        have hb : z2.toBitVec.toNat = z2.toInt.toNat := by
          have h1 : z2.toInt = z2.toBitVec.toInt := rfl
          have h2 := BitVec.toInt_eq_toNat_cond (x := z2.toBitVec)
          have h3 := z2.toBitVec.isLt
          split at h2 <;> omega
        rw [hb]
        show (nI (z2.toInt.toNat % 65536)).toInt ≤ 255
        rw [nI_toInt (by omega)]
        omega
      refine j_appc h ev (by omega) (fun N1 G1 kc ks n1 t1 t2 t3 t4 t5 => ⟨some 31, rfl, ?_⟩)
      have loop : ∀ (j i : Nat) (p4 : Int32) (N1 : Nat) (G1 : Nat → sx_C) (kc ks n1 cnt1 : Nat), (i : Int) + (j : Int) = z3.toInt → p4.toInt = (i : Int) → q_lI N1 G1 u c mk n1 cnt1 → q_LR N G N1 G1 → cnt1 ≤ 91 + 4 * m + i → n ≤ n1 → kc + n ≤ n1 → ks + 8 * n ≤ 8 * n1 → cT (7 * (m + 1) + 7) sM_104 83 [(0, .ref 5), (1, .ref y), (2, .int p2), (3, .ref z), (4, .int p4)] [] N1 G1 (fun r N2 G2 kc1 ks1 => K r N2 G2 (kc + kc1) (ks + ks1)) := by
        intro j
        induction j with
        | zero =>
          intro i p4 N1 G1 kc ks n1 cnt1 hij hp4 hI hR hc1 hn hkc hks
          have h641 := hI.1.Z.2.1
          have hN := hR.1.1
          have ez : G1 z = _ := (hR.2.1 z hz.2.1 zX).trans z5
          have e51 : G1 5 = _ := (hR.2.1 5 (by omega) X5).trans e5
          obtain ⟨b2, ml2, ct2, f2, p12, -⟩ := id hI.2
          refine k_104_83 ⟨hz.1, by have := hz.2.1; omega, z1, z2, z3, z4, ez, fun _ => ⟨fun _ => hK N1 G1 _ _ n1 cnt1 hI hR (fun q => by omega) (fun _ => by omega) hn (by omega) (by omega), fun _ => ⟨by omega, pl, e51, by omega, b2, 0, ml2, ct2, p12, ?_⟩⟩, fun q => by omega⟩
          refine j_appc hI (by decide) (by omega) (fun N2 G2 kc2 ks2 n2 s1 s2 s3 s4 s5 => ⟨some 31, rfl, ?_⟩)
          exact hK N2 G2 _ _ n2 _ s1 (hR.trans s2) (fun q => by omega) (fun _ => by omega) (by omega) (by omega) (by omega)
        | succ j ihj =>
          intro i p4 N1 G1 kc ks n1 cnt1 hij hp4 hI hR hc1 hn hkc hks
          have h641 := hI.1.Z.2.1
          have hN := hR.1.1
          have ez : G1 z = _ := (hR.2.1 z hz.2.1 zX).trans z5
          have e51 : G1 5 = _ := (hR.2.1 5 (by omega) X5).trans e5
          obtain ⟨b2, ml2, ct2, f2, p12, -⟩ := id hI.2
          have ei1 : (p4 + 1).toInt = ((i + 1 : Nat) : Int) := by
            rw [i32_succ (by omega) (by omega), hp4]
            omega
          have ec : p4.toNatClampNeg = i := i32_cl hp4
          refine k_104_83 ⟨hz.1, by have := hz.2.1; omega, z1, z2, z3, z4, ez, fun q => by omega, fun _ => ⟨by omega, pl, e51, fun _ => ⟨by omega, b2, 0, ml2, ct2, p12, ?_⟩, fun _ => ⟨by omega, b2, 0, ml2, ct2, p12, ?_⟩⟩⟩
          all_goals
            refine j_appc hI (by decide) (by omega) (fun N2 G2 kc2 ks2 n2 s1 s2 s3 s4 s5 => ⟨some 31, rfl, ?_⟩)
            have R2 := hR.trans s2
            have hN2 := s2.1.1
            have h642 := s1.1.Z.2.1
            have ez2 : G2 z = _ := (R2.2.1 z hz.2.1 zX).trans z5
            have e52 : G2 5 = _ := (R2.2.1 5 (by omega) X5).trans e5
            have hz2 := hz.sl R2.1
            obtain ⟨-, -, -, -, fz2, -, w6, w7, -⟩ := s1.1.Z.1.nd hz2
            have z5' := hz.1
            obtain ⟨x22, x1, x2⟩ := s1.1.Z.1.el (by omega) w7 ((z13 i (by omega)).sl R2.1)
            refine ⟨hz2.1, hz2.2.1, z1, z2, z3, z4, ez2, by omega, w6, fz2, w7, by omega, by omega, x22, by rw [ec]; exact x1, by omega, pl, e52, ?_⟩
            refine ih N2 G2 n2 (cnt1 + 1) x22 (p2 + 1) _ s1 e52 x2 (by rw [i32_succ (by omega) (by omega)]; omega) (by omega) (by omega) (fun N3 G3 kc3 ks3 n3 cnt3 d1 d2 d3 d4 d5 d6 d7 => ⟨rfl, ?_⟩)
            refine (ihj (i + 1) (p4 + 1) N3 G3 (kc + (kc2 + kc3)) (ks + (ks2 + ks3)) n3 cnt3 (by omega) ei1 d1 (R2.trans d2) (by omega) (by omega) (by omega) (by omega)).mono (fun r N4 G4 kc4 ks4 q => ?_)
            rw [← Nat.add_assoc kc, ← Nat.add_assoc ks]
            exact q
      exact loop z3.toInt.toNat 0 0 N1 G1 kc ks n1 (cnt + 1) (by omega) rfl t1 t2 (by omega) t3 t4 t5
    · refine j_appi h (by omega) (fun N1 G1 kc ks n1 cnt1 t1 t2 t3 t4 t5 t6 => ⟨some 31, rfl, ?_⟩)
      exact hK N1 G1 kc ks n1 cnt1 t1 t2 (fun q => by omega) (fun _ => by omega) t4 t5 t6
    · refine j_appc h (by decide) (by omega) (fun N1 G1 kc ks n1 t1 t2 t3 t4 t5 => ⟨some 31, rfl, ?_⟩)
      exact hK N1 G1 kc ks n1 _ t1 t2 (fun q => by omega) (fun _ => by omega) t3 t4 t5
theorem q_lI.exc {j : Nat} (h : q_lI N G u c mk n cnt) : q_lI (N + 1) (va_up G N (.inr (.inr j))) u c mk n cnt ∧ q_LR N G (N + 1) (va_up G N (.inr (.inr j))) := by
  obtain ⟨b, ml, ct, f, p1, p2, p3, p4, p5, p6, p7, p8, p9⟩ := id h.2
  have e : ∀ p, p < N → (va_up G N (.inr (.inr j) : sx_C)) p = G p := fun p hp => va_ne (by omega)
  have h64 := h.1.Z.2.1
  refine ⟨⟨h.1.exc.1, b, ml, ct, f, (e 31 (by omega)).trans p1, p2, p3, by omega, (e b p4).trans p5, p6, p7, p8, p9⟩, h.1.exc.2.1, fun p hp _ => e p hp, fun p hp hX => ?_⟩
  rcases hX with q | ⟨b2, x, y, z, q1, q2⟩
  · exact Or.inl q
  · exact Or.inr ⟨b2, x, y, z, (e 31 (by omega)).symm.trans q1, q2⟩
set_option maxHeartbeats 2000000 in
theorem j_letter {p1 p2 pl : Int32} (h : q_lI N G u c mk n cnt) (e5 : G 5 = oC 0 [.ref 6, .int pl, .ref 8, .ref 9, .ref 31]) (hK : ∀ r N1 G1 kc ks n1 cnt1, q_lI N1 G1 u c mk n1 cnt1 → q_LR N G N1 G1 → kc + n ≤ n1 + 1 → ks + 8 * n ≤ 8 * n1 + 8 → (∃ v : Int32, r = .inl (some (.int v))) ∨ (∃ x j, r = .inr x ∧ 5 ≤ x ∧ x < N1 ∧ G1 x = .inr (.inr j) ∧ (j = 0 ∨ j = 3)) → K r N1 G1 kc ks) : cT 401 sM_102 0 [(0, .ref 5), (1, .int p1), (2, .int p2)] [] N G K := by
  have h64 := h.1.Z.2.1
  have exc : ∀ j, j = 0 ∨ j = 3 → K (.inr N) (N + 1) (va_up G N (.inr (.inr j))) 1 6 := fun j hj => hK _ _ _ 1 6 n cnt h.exc.1 h.exc.2 (by omega) (by omega) (Or.inr ⟨N, j, rfl, by omega, by omega, up_eq, hj⟩)
  obtain ⟨st, sp, sl, e9⟩ : ∃ st sp sl : Int32, G 9 = oC 2 [.ref 10, .ref 17, .ref 18, .ref 20, .ref 22, .int st, .int sp, .int sl] := by
    obtain ⟨sp, hn, -⟩ := h.1
    obtain ⟨st, sl, e⟩ := hn.2.1
    exact ⟨st, sp, sl, e⟩
  obtain ⟨f22, e22⟩ := h.1.Z.2.a 22 6 26 rfl
  obtain ⟨b, ml, ct, f, p1', q2, -⟩ := id h.2
  refine k_102_0 ⟨fun _ => exc 0 (Or.inl rfl), fun h0 => ⟨fun h26 => ⟨by omega, pl, e5, by omega, st, sp, sl, e9, fun _ => exc 3 (Or.inr rfl), fun _ => ⟨fun _ => exc 3 (Or.inr rfl), fun _ => ⟨by omega, f22, e22, h0, h26, fun o9 eo => ⟨fun _ => exc 3 (Or.inr rfl), fun x10 ex => ⟨by omega, b, 0, ml, ct, p1', ?_⟩⟩⟩⟩⟩, fun _ => exc 0 (Or.inl rfl)⟩⟩
  have hx : q_ob N G x10 10 := (h.1.Z.1 22 (by decide) (by omega)).2.2.2.1 26 f22 e22 _ x10 (eo.symm.trans ex)
  refine j_setl h (fun G1 t1 t2 => ⟨rfl, ?_⟩)
  have X5 : ¬ q_X G 5 := h.2.nX (by decide) (Or.inl ⟨_, _, e5⟩)
  have e51 : G1 5 = _ := (t2.2.1 5 (by omega) X5).trans e5
  have X51 : ¬ q_X G1 5 := t1.2.nX (by decide) (Or.inl ⟨_, _, e51⟩)
  refine ⟨by omega, pl, e51, ?_⟩
  refine (j_spell 41 N G1 n 0 x10 1 _ t1 e51 (hx.sl t2.1) rfl (by omega) (by omega) (fun N2 G2 kc2 ks2 n2 cnt2 s1 s2 s3 s4 s5 s6 s7 => ⟨rfl, ?_⟩)).dep (by omega)
  have h642 := s1.1.Z.2.1
  have hN2 := s2.1.1
  have e52 : G2 5 = _ := (s2.2.1 5 (by omega) X51).trans e51
  obtain ⟨b2, ml2, ct2, f2, p12, q22, -⟩ := id s1.2
  have R2 := t2.trans s2
  have exc2 : ∀ j, j = 0 ∨ j = 3 → K (.inr N2) (N2 + 1) (va_up G2 N2 (.inr (.inr j))) (0 + kc2 + 1) (0 + ks2 + 6) := fun j hj => hK _ _ _ _ _ n2 cnt2 s1.exc.1 (R2.trans s1.exc.2) (by omega) (by omega) (Or.inr ⟨N2, j, rfl, by omega, by omega, up_eq, hj⟩)
  have ret2 : ∀ v : Int32, K (.inl (some (.int v))) N2 G2 (0 + kc2) (0 + ks2) := fun v => hK _ _ _ _ _ n2 cnt2 s1 R2 (by omega) (by omega) (Or.inl ⟨v, rfl⟩)
  exact ⟨by omega, pl, e52, by omega, b2, 0, ml2, ct2, p12, fun hg => ⟨fun _ => ⟨fun _ => exc2 3 (Or.inr rfl), fun _ => ⟨fun _ => j_charAt s1 (by omega) (by omega) (fun v => ⟨v, rfl, ret2 v⟩), fun _ => exc2 3 (Or.inr rfl)⟩⟩, fun _ => ret2 80⟩, fun hg => ⟨fun _ => ⟨fun _ => exc2 3 (Or.inr rfl), fun _ => ⟨fun _ => j_charAt s1 (by omega) (by omega) (fun v => ⟨v, rfl, ret2 v⟩), fun _ => exc2 3 (Or.inr rfl)⟩⟩, fun _ => ret2 ct2⟩⟩
theorem j_sleepers4 {hd : Nat} {sp : Int32} (h : q_nI N G u c mk hd sp) (hy : q_ob N G y 10) (hK : ∀ v : Int32, K (.inl (some (.int v))) N G 0 0) : ∀ (k : Nat) (p2 p3 : Int32), 0 ≤ p3.toInt → p3.toInt + (k : Int) = 61 → cT 2 sM_107 4 [(0, .ref 9), (1, .ref y), (2, .int p2), (3, .int p3)] [] N G K := by
  have h64 := h.1.2.1.1
  obtain ⟨st, sl, e9⟩ := h.2.1
  obtain ⟨s8, f8, p8, a8, b8, c8, d8, g8, -⟩ := h.1.1.rw (h.1.2.1.row (x := 18) (Or.inl rfl))
  intro k
  induction k with
  | zero =>
    intro p2 p3 h0 hk
    exact k_107_4 ⟨by omega, st, sp, sl, e9, by omega, s8, p8, fun _ => hK p2, fun q => by omega⟩
  | succ k ih =>
    intro p2 p3 h0 hk
    have e1 : (p3 + 1).toInt = p3.toInt + 1 := i32_succ h0 (by omega)
    have again : ∀ p2 : Int32, cT 2 sM_107 4 [(0, .ref 9), (1, .ref y), (2, .int p2), (3, .int (p3 + 1))] [] N G K := fun p2 => ih p2 (p3 + 1) (by omega) (by omega)
    refine k_107_4 ⟨by omega, st, sp, sl, e9, by omega, s8, p8, fun _ => hK p2, fun hlt => ⟨fun q => by omega, fun _ => ⟨fun q => by omega, fun _ => ?_⟩⟩⟩
    obtain ⟨z, z1, z2⟩ := g8 p3.toInt.toNat (by omega)
    have oz := z2.ob
    obtain ⟨sg, l, o1, o2, o3, w, f, e, -⟩ := h.1.1.go oz
    exact ⟨by omega, f8, b8, h0, by omega, z, z1, oz.1, oz.2.1, sg, l, o1, o2, o3, w, e, j_awaits h.1.1 oz hy (fun v => ⟨rfl, rfl, rfl, rfl, v, rfl, fun _ => again p2, fun _ => again (p2 + 1)⟩)⟩
theorem j_sleeping {p1 pl : Int32} (h : q_lI N G u c mk n cnt) (e5 : G 5 = oC 0 [.ref 6, .int pl, .ref 8, .ref 9, .ref 31]) (hK : ∀ r N1 G1 kc ks n1 cnt1, q_lI N1 G1 u c mk n1 cnt1 → q_LR N G N1 G1 → kc + n ≤ n1 + 1 → ks + 8 * n ≤ 8 * n1 + 8 → (∃ v : Int32, r = .inl (some (.int v))) ∨ (∃ x j, r = .inr x ∧ 5 ≤ x ∧ x < N1 ∧ G1 x = .inr (.inr j) ∧ j = 0) → K r N1 G1 kc ks) : cT 6 sM_106 0 [(0, .ref 5), (1, .int p1)] [] N G K := by
  have h64 := h.1.Z.2.1
  have exc : ∀ j, j = 0 → K (.inr N) (N + 1) (va_up G N (.inr (.inr j))) 1 6 := fun j hj => hK _ _ _ 1 6 n cnt h.exc.1 h.exc.2 (by omega) (by omega) (Or.inr ⟨N, j, rfl, by omega, by omega, up_eq, hj⟩)
  have ret : ∀ v : Int32, K (.inl (some (.int v))) N G 0 0 := fun v => hK _ _ _ _ _ n cnt h q_LR.rfl' (by omega) (by omega) (Or.inl ⟨v, rfl⟩)
  obtain ⟨sp, hn, -⟩ := id h.1
  obtain ⟨st, sl, e9⟩ := hn.2.1
  obtain ⟨f22, e22⟩ := h.1.Z.2.a 22 6 26 rfl
  refine k_106_0 ⟨fun _ => exc 0 rfl, fun h0 => ⟨fun h26 => ⟨by omega, pl, e5, by omega, st, sp, sl, e9, fun _ => ret _, fun _ => ⟨fun _ => ret _, fun _ => ⟨by omega, f22, e22, h0, h26, fun o9 eo => ⟨fun _ => ret _, fun x10 ex => ?_⟩⟩⟩⟩, fun _ => exc 0 rfl⟩⟩
  have hx : q_ob N G x10 10 := (h.1.Z.1 22 (by decide) (by omega)).2.2.2.1 26 f22 e22 _ x10 (eo.symm.trans ex)
  obtain ⟨a1, a2, a3, a4, -, b1, -⟩ := h.1.Z.1.nd hx
  refine ⟨hx.1, hx.2.1, a1, a2, a3, a4, b1, c_at h.1.Z.1 hx (fun z hz => ⟨rfl, rfl, rfl, rfl, some z, rfl, fun q => (by cases q), fun x13 ex2 => ?_⟩)⟩
  cases ex2
  exact k_107_0 (j_sleepers4 hn hz (fun v => ⟨rfl, rfl, rfl, rfl, v, rfl, ret v⟩) 61 0 0 (by decide) rfl)
end QL2
