/-! THE CALLS of the class: type, add, drop, ask, run, letter, sleeping, count -/
def q_ro (P P1 kc ks : Nat) : Prop := kc + P ≤ P1 + 400 ∧ ks + 8 * P ≤ 8 * P1 + 3200
def q_fr (G G1 : Nat → sx_C) : Prop := ∀ q, q_rs q → G1 q = G q
def q_ex (r : Option Value ⊕ Nat) (N : Nat) (G : Nat → sx_C) (j : Nat) : Prop := ∃ x, r = .inr x ∧ 5 ≤ x ∧ x < N ∧ G x = .inr (.inr j)
section QCa
variable {F : Nat → Prop} {T : Nat → Int32} {N n s P : Nat} {G : Nat → sx_C} {K : Option Value ⊕ Nat → Nat → (Nat → sx_C) → Nat → Nat → Prop}
theorem q_byt : ∀ k, k < 128 → (nI k).toInt8.toInt32 = nI k := by decide +kernel
theorem q_byt' {x : Int32} (h0 : 0 ≤ x.toInt) (h1 : x.toInt ≤ 127) : vp_nar .byte (Int8.toInt32 (Int32.toInt8 x)) = x := by
  have e : x = nI x.toInt.toNat := nI_tq (by omega) (by omega)
  rw [pk_vb, e]
  exact q_byt _ (by omega)
theorem tok_s {e : Int64} {j : Nat} (h : tok e (j + 1) = true) : tok e j = true ∧ ((tch e j).toInt = 0 ∨ (33 ≤ (tch e j).toInt ∧ (tch e j).toInt ≤ 126)) := by
  have h' : (decide ((tch e j).toInt = 0 ∨ (33 ≤ (tch e j).toInt ∧ (tch e j).toInt ≤ 126)) && tok e j) = true := h
  rw [Bool.and_eq_true] at h'
  exact ⟨h'.2, of_decide_eq_true h'.1⟩
theorem j_ty91 {e : Int64} {q3 pl : Int32} (h64 : 64 < N) : ∀ (j s : Nat) (p4 ln at_ : Int32) (T : Nat → Int32) (G : Nat → sx_C), j ≤ 8 → p4.toInt = 8 * (j : Int) - 8 → tok e j = true → G 5 = oC 0 [.ref 6, .int pl, .ref 8, .ref 9, .ref 31] → G 6 = oC 1 [.ref 7, .int ln, .int at_] → ln.toInt = (s : Int) → G 7 = .inl (1, (48, .inl T)) → s + (tl e j).length ≤ 48 → (∀ G1 T1 ln1, (∀ q, q ≠ 6 → q ≠ 7 → G1 q = G q) → G1 6 = oC 1 [.ref 7, .int ln1, .int at_] → ln1.toInt = ((s + (tl e j).length : Nat) : Int) → G1 7 = .inl (1, (48, .inl T1)) → (∀ i, i < s → T1 i = T i) → (∀ k x, (tl e j)[k]? = some x → T1 (s + k) = x) → K (.inl (some (.int ln1))) N G1 0 0) → cT 6 sM_19 91 [(0, .ref 5), (1, .long e), (3, .int q3), (4, .int p4)] [] N G K := by
  intro j
  induction j with
  | zero =>
    intro s p4 ln at_ T G hj h4 hok e5 e6 hs e7 hl hK
    exact k_19_91 ⟨fun _ => ⟨by omega, pl, e5, by omega, ln, at_, e6, hK G T ln (fun _ _ _ => rfl) e6 (by rw [hs]; rfl) e7 (fun _ _ => rfl) (fun k x hx => by cases hx)⟩, fun z => absurd z (by omega)⟩
  | succ j ih =>
    intro s p4 ln at_ T G hj h4 hok e5 e6 hs e7 hl hK
    have h4' : p4.toInt = 8 * (j : Int) := by omega
    obtain ⟨y, ey, hy⟩ := i32_m8 h4' (by omega)
    obtain ⟨ok1, ok2⟩ := tok_s hok
    refine k_19_91 ⟨fun z => absurd z (by omega), fun _ => ?_⟩
    rw [tch_of h4', ey]
    refine ⟨fun z => ?_, fun z => ⟨by omega, pl, e5, by omega, ln, at_, e6, fun q => ?_, fun hlt => ⟨by omega, T, e7, by omega, by omega, ?_⟩⟩⟩
    · rw [tl_s0 z] at hl hK
      exact ih s y ln at_ T G (by omega) hy ok1 e5 e6 hs e7 hl hK
    · rw [tl_s1 z, List.length_cons] at hl
      omega
    · rw [tl_s1 z] at hl hK
      rw [List.length_cons] at hl
      rw [q_byt' (by omega) (by omega), i32_cl hs]
      refine ih (s + 1) y (ln + 1) at_ (upd T s (tch e j)) _ (by omega) hy ok1 ((va_ne (by decide)).trans ((va_ne (by decide)).trans e5)) up_eq (by rw [i32_succ (by omega) (by omega), hs]; omega) ((va_ne (by decide)).trans up_eq) (by omega) (fun G1 T1 ln1 o1 o2 o3 o4 l2 l3 => hK G1 T1 ln1 (fun q q6 q7 => (o1 q q6 q7).trans ((va_ne q6).trans (va_ne q7))) o2 (by rw [o3, List.length_cons]; omega) o4 (fun i hi => ?_) (fun k x hx => ?_))
      · rw [l2 i (by omega)]
        exact ud_ne (by omega)
      · cases k with
        | zero =>
          cases hx
          rw [Nat.add_zero, l2 s (by omega)]
          exact ud_eq
        | succ k =>
          rw [List.getElem?_cons_succ] at hx
          rw [show s + (k + 1) = s + 1 + k from by omega]
          exact l3 k x hx
theorem j_ty6 {e : Int64} {pl ln at_ : Int32} {s : Nat} (h64 : 64 < N) (e5 : G 5 = oC 0 [.ref 6, .int pl, .ref 8, .ref 9, .ref 31]) (e6 : G 6 = oC 1 [.ref 7, .int ln, .int at_]) (hs : ln.toInt = (s : Int)) (hs8 : s ≤ 48) (e7 : G 7 = .inl (1, (48, .inl T))) (hK1 : tok e 8 = false → K (.inr N) (N + 1) (va_up G N (.inr (.inr 0))) 1 6) (hK2 : tok e 8 = true → 48 < s + (tl e 8).length → K (.inr N) (N + 1) (va_up G N (.inr (.inr 1))) 1 6)
    (hK3 : tok e 8 = true → s + (tl e 8).length ≤ 48 → ∀ G1 T1 ln1, (∀ q, q ≠ 6 → q ≠ 7 → G1 q = G q) → G1 6 = oC 1 [.ref 7, .int ln1, .int at_] → ln1.toInt = ((s + (tl e 8).length : Nat) : Int) → G1 7 = .inl (1, (48, .inl T1)) → (∀ i, i < s → T1 i = T i) → (∀ k x, (tl e 8)[k]? = some x → T1 (s + k) = x) → K (.inl (some (.int ln1))) N G1 0 0) : ∀ (j m : Nat) (p3 p4 : Int32), j ≤ 8 → p4.toInt = 8 * (j : Int) - 8 → p3.toInt = (m : Int) → m + (tl e j).length = (tl e 8).length → (tok e j = true ↔ tok e 8 = true) → cT 6 sM_19 6 [(0, .ref 5), (1, .long e), (3, .int p3), (4, .int p4)] [] N G K := by
  have L8 := tl_len e 8
  intro j
  induction j with
  | zero =>
    intro m p3 p4 hj h4 h3 hm hok
    have em : (ln + p3).toInt = ((s + (tl e 8).length : Nat) : Int) := i32_add (by rw [hs, h3]; have : (tl e 0).length = 0 := rfl; omega) (by omega) (by omega)
    have hok8 : tok e 8 = true := hok.mp rfl
    refine k_19_6 ⟨fun _ => ⟨by omega, pl, e5, by omega, ln, at_, e6, fun hle => ?_, fun hgt => hK2 hok8 (by omega)⟩, fun z => absurd z (by omega)⟩
    exact j_ty91 (pl := pl) h64 8 s 56 ln at_ T G (Nat.le_refl _) (by decide) hok8 e5 e6 hs e7 (by omega) (hK3 hok8 (by omega))
  | succ j ih =>
    intro m p3 p4 hj h4 h3 hm hok
    have h4' : p4.toInt = 8 * (j : Int) := by omega
    obtain ⟨y, ey, hy⟩ := i32_m8 h4' (by omega)
    have lj := tl_len e (j + 1)
    refine k_19_6 ⟨fun z => absurd z (by omega), fun _ => ?_⟩
    rw [tch_of h4', ey]
    have good : (tch e j).toInt = 0 ∨ (33 ≤ (tch e j).toInt ∧ (tch e j).toInt ≤ 126) → tok e (j + 1) = tok e j := by
      intro g
      show (decide _ && tok e j) = _
      rw [decide_eq_true g, Bool.true_and]
    have badd : ¬ ((tch e j).toInt = 0 ∨ (33 ≤ (tch e j).toInt ∧ (tch e j).toInt ≤ 126)) → tok e 8 = false := fun g => by
      cases hh : tok e 8 with
      | false => rfl
      | true => exact absurd (tok_s (hok.mpr hh)).2 g
    have e0 : (p3 + 0).toInt = (m : Int) := by
      have z0 : (0 : Int32).toInt = 0 := rfl
      exact i32_add (by rw [h3, z0]; omega) (by omega) (by omega)
    refine ⟨fun z => ⟨fun _ => ?_, fun y' => absurd z y'⟩, fun z => ⟨fun g => hK1 (badd (by omega)), fun g1 => ⟨fun g2 => ⟨fun y' => absurd y' z, fun _ => ?_⟩, fun g => hK1 (badd (by omega))⟩⟩⟩
    · rw [tl_s0 z] at hm
      rw [good (Or.inl z)] at hok
      exact ih m (p3 + 0) y (by omega) hy e0 hm hok
    · rw [tl_s1 z, List.length_cons] at hm
      rw [good (Or.inr ⟨g1, g2⟩)] at hok
      exact ih (m + 1) (p3 + 1) y (by omega) hy (by rw [i32_succ (by omega) (by omega)]; omega) (by omega) hok
variable {u c mk nb cnt a nn : Nat} {pl sz m : Int32} {f : Nat → Option Nat}
/-- an exception, and nothing else -/
theorem q_cI.exc {j : Nat} (h : q_cI N G F T n s P) : q_cI (N + 1) (va_up G N (.inr (.inr j))) F T n s P ∧ q_fr G (va_up G N (.inr (.inr j))) := by
  obtain ⟨u, c, mk, nb, cnt, a, nn, pl, sz, m, f, hJ, hP⟩ := h
  have h64 := hJ.1.Z.2.1
  obtain ⟨hI, hB, ⟨ln, at_, d1, d2, d5, d6⟩, e5, ⟨k1, k2, k3, k4, k5, k6, k7, k8, k9, k10, k11⟩, hF⟩ := id hJ
  have e : ∀ q, q < N → (va_up G N (.inr (.inr j) : sx_C)) q = G q := fun q hq => va_ne (by omega)
  obtain ⟨r1, r2⟩ := hJ.any (N1 := N + 1) (G1 := va_up G N (.inr (.inr j))) (F1 := F) (by omega) (fun q hq _ _ _ _ _ => e q hq) (fun q q1 q2 => Or.inr ⟨j, by rw [show q = N by omega, up_eq]⟩) ((e 5 (by omega)).trans e5) ⟨ln, at_, (e 6 (by omega)).trans d1, d2, d5, (e 7 (by omega)).trans d6⟩ ((e 8 (by omega)).trans k1) k2 k3 (by omega) ((e a k4).trans k5) k6 k7 k8 (Or.inl rfl) ⟨f, (e a k4).trans k5⟩ (fun q z => Or.inl z) (fun q z => z) (fun i hi => by
    obtain ⟨q, z1, z2⟩ := k9 i hi
    exact ⟨q, z1, z2.fr (by omega) (fun _ z => z) (fun q z => e q (hF.1 q z).1)⟩)
  exact ⟨⟨u, c, mk, nb, cnt, a, nn, pl, sz, m, f, r1, hP⟩, r2⟩
/-- only the text -/
theorem q_cI.txt {G1 : Nat → sx_C} {T1 : Nat → Int32} {n1 : Nat} (h : q_cI N G F T n s P) (e : ∀ q, q ≠ 6 → q ≠ 7 → G1 q = G q) (h0 : q_r0 G1 T1 n1) : q_cI N G1 F T1 n1 s P ∧ q_fr G G1 := by
  obtain ⟨u, c, mk, nb, cnt, a, nn, pl, sz, m, f, hJ, hP⟩ := h
  obtain ⟨hI, hB, ⟨ln, at_, d1, d2, d5, d6⟩, e5, ⟨k1, k2, k3, k4, k5, k6, k7, k8, k9, k10, k11⟩, hF⟩ := id hJ
  have a6 : a ≠ 6 := fun q => by
    rw [q, d1] at k5
    exact oa_ne k5
  have a7 : a ≠ 7 := fun q => by
    rw [q, d6] at k5
    cases k5
  obtain ⟨r1, r2⟩ := hJ.any (N1 := N) (G1 := G1) (F1 := F) (Nat.le_refl N) (fun q hq _ q6 q7 _ _ => e q q6 q7) (fun q q1 q2 => by omega) ((e 5 (by decide) (by decide)).trans e5) h0 ((e 8 (by decide) (by decide)).trans k1) k2 k3 k4 ((e a a6 a7).trans k5) k6 k7 k8 (Or.inl rfl) ⟨f, (e a a6 a7).trans k5⟩ (fun q z => Or.inl z) (fun q z => z) (fun i hi => by
    obtain ⟨q, z1, z2⟩ := k9 i hi
    exact ⟨q, z1, z2.fr (Nat.le_refl N) (fun _ z => z) (fun q z => e q (hF.1 q z).2.2.2.2.1 (hF.1 q z).2.2.2.2.2.1)⟩)
  exact ⟨⟨u, c, mk, nb, cnt, a, nn, pl, sz, m, f, r1, hP⟩, r2⟩
theorem q_cI.z (h : q_cI N G F T n s P) : 64 < N ∧ n ≤ 48 ∧ s ≤ 12 ∧ P ≤ 81000 := by
  obtain ⟨u, c, mk, nb, cnt, a, nn, pl, sz, m, f, hJ, hP⟩ := h
  obtain ⟨⟨sp, hn, -⟩, ⟨b, ml, ct, fb, b1, b2, b3, b4, b5, b6, b7, b8, b9⟩, ⟨ln, at_, d1, d2, d5, d6⟩, e5, ⟨k1, k2, k3, k4, k5, k6, k7, k8, k9, k10, k11⟩, hF⟩ := hJ
  obtain ⟨us, vr, sz', m', a', n', s', f', h1, h2, h3, h4, h5, h6, h7, h8, h9, h10, h11, h12, h13⟩ := hn.1.2.2.2.2
  have h61 := hn.2.2.2.2
  exact ⟨hn.1.2.1.1, d5, k3, by omega⟩
/-- type -/
theorem j_type {e : Int64} (h : q_cI N G F T n s P)
    (hK1 : tok e 8 = false → ∀ G1, q_cI (N + 1) G1 F T n s P → q_fr G G1 → G1 N = .inr (.inr 0) → K (.inr N) (N + 1) G1 1 6)
    (hK2 : tok e 8 = true → 48 < n + (tl e 8).length → ∀ G1, q_cI (N + 1) G1 F T n s P → q_fr G G1 → G1 N = .inr (.inr 1) → K (.inr N) (N + 1) G1 1 6)
    (hK3 : tok e 8 = true → n + (tl e 8).length ≤ 48 → ∀ G1 T1 (v : Int32), q_cI N G1 F T1 (n + (tl e 8).length) s P → q_fr G G1 → v.toInt = ((n + (tl e 8).length : Nat) : Int) → (∀ i, i < n → T1 i = T i) → (∀ k x, (tl e 8)[k]? = some x → T1 (n + k) = x) → K (.inl (some (.int v))) N G1 0 0) : cT 6 sM_19 0 [(0, .ref 5), (1, .long e)] [] N G K := by
  have hz := h.z
  have hx0 := h.exc (j := 0)
  have hx1 := h.exc (j := 1)
  have ht := fun {G1 : Nat → sx_C} {T1 : Nat → Int32} {n1 : Nat} => h.txt (G1 := G1) (T1 := T1) (n1 := n1)
  obtain ⟨u, c, mk, nb, cnt, a, nn, pl, sz, m, f, ⟨hI, hB, ⟨ln, at_, d1, d2, d5, d6⟩, e5, -, -⟩, -⟩ := id h
  refine k_19_0 (j_ty6 hz.1 e5 d1 d2 d5 d6 (fun q => hK1 q _ hx0.1 hx0.2 up_eq) (fun q1 q2 => hK2 q1 q2 _ hx1.1 hx1.2 up_eq) (fun q1 q2 G1 T1 ln1 o1 o2 o3 o4 o5 o6 => ?_) 8 0 0 56 (Nat.le_refl _) (by decide) rfl (by omega) Iff.rfl)
  obtain ⟨r1, r2⟩ := ht o1 ⟨ln1, at_, o2, o3, q2, o4⟩
  exact hK3 q1 q2 G1 T1 ln1 r1 r2 o3 o5 o6
/-- run -/
theorem j_Run {p1 : Int32} (h : q_cI N G F T n s P) (hK : ∀ r N1 G1 kc ks P1, q_cI N1 G1 F T n s P1 → q_fr G G1 → N ≤ N1 → q_ro P P1 kc ks → (∃ v : Int32, r = .inl (some (.int v))) ∨ q_ex r N1 G1 0 ∨ q_ex r N1 G1 1 ∨ q_ex r N1 G1 2 → K r N1 G1 kc ks) : cT 84 sM_67 0 [(0, .ref 5), (1, .int p1)] [] N G K := by
  obtain ⟨u, c, mk, nb, cnt, a, nn, pl, sz, m, f, hJ, hP⟩ := h
  obtain ⟨hI, hB, ⟨ln, at_, d1, d2, d5, d6⟩, e5, ⟨k1, k2, k3, k4, k5, k6, k7, k8, k9, k10, k11⟩, hF⟩ := id hJ
  have h64 := hI.Z.2.1
  refine j_run (F := fun q => F q ∨ q = 5 ∨ q = 8 ∨ q = a) (s := s) hI (fun q z => ?_) (Or.inr (Or.inl rfl)) e5 ⟨a, nn, sz, m, f, Or.inr (Or.inr (Or.inl rfl)), Or.inr (Or.inr (Or.inr rfl)), k1, k2, k3, k5, k6, fun i hi => ?_⟩ (fun r N1 G1 kc ks u1 c1 mk1 t1 t2 t3 t4 t5 => ?_)
  · rcases z with z | z | z | z
    · exact ⟨(hF.1 q z).1, (hF.1 q z).2.1⟩
    · rw [z]
      exact ⟨by omega, hI.nV rfl (by decide) (by decide) (by decide)⟩
    · rw [z]
      exact ⟨by omega, hI.nV rfl (by decide) (by decide) (by decide)⟩
    · rw [z]
      exact ⟨k4, k10⟩
  · obtain ⟨q, z1, z2⟩ := k9 i hi
    exact ⟨q, z1, z2.fr (Nat.le_refl N) (fun q z => Or.inl z) (fun _ _ => rfl)⟩
  · obtain ⟨r1, r2⟩ := hJ.nr t1 t2
    refine hK r N1 G1 kc ks (c1 + 3 * mk1 + nb + nn) ⟨u1, c1, mk1, nb, cnt, a, nn, pl, sz, m, f, r1, rfl⟩ r2 t2.1.1 ⟨by omega, by omega⟩ ?_
    rcases t5 with t5 | ⟨x, j, q1, q2, q3, q4, q5⟩
    · exact Or.inl t5
    · rcases q5 with rfl | rfl | rfl
      · exact Or.inr (Or.inl ⟨x, q1, q2, q3, q4⟩)
      · exact Or.inr (Or.inr (Or.inl ⟨x, q1, q2, q3, q4⟩))
      · exact Or.inr (Or.inr (Or.inr ⟨x, q1, q2, q3, q4⟩))
/-- letter -/
theorem j_Letter {p1 p2 : Int32} (h : q_cI N G F T n s P) (hK : ∀ r N1 G1 kc ks P1, q_cI N1 G1 F T n s P1 → q_fr G G1 → N ≤ N1 → q_ro P P1 kc ks → (∃ v : Int32, r = .inl (some (.int v))) ∨ q_ex r N1 G1 0 ∨ q_ex r N1 G1 3 → K r N1 G1 kc ks) : cT 401 sM_102 0 [(0, .ref 5), (1, .int p1), (2, .int p2)] [] N G K := by
  obtain ⟨u, c, mk, nb, cnt, a, nn, pl, sz, m, f, hJ, hP⟩ := h
  refine j_letter (pl := pl) ⟨hJ.1, hJ.2.1⟩ hJ.2.2.2.1 (fun r N1 G1 kc ks n1 cnt1 t1 t2 t3 t4 t5 => ?_)
  obtain ⟨r1, r2⟩ := hJ.lr t1 t2
  refine hK r N1 G1 kc ks (c + 3 * mk + n1 + nn) ⟨u, c, mk, n1, cnt1, a, nn, pl, sz, m, f, r1, rfl⟩ r2 t2.1.1 ⟨by omega, by omega⟩ ?_
  rcases t5 with t5 | ⟨x, j, q1, q2, q3, q4, q5⟩
  · exact Or.inl t5
  · rcases q5 with rfl | rfl
    · exact Or.inr (Or.inl ⟨x, q1, q2, q3, q4⟩)
    · exact Or.inr (Or.inr ⟨x, q1, q2, q3, q4⟩)
/-- sleeping -/
theorem j_Sleeping {p1 : Int32} (h : q_cI N G F T n s P) (hK : ∀ r N1 G1 kc ks P1, q_cI N1 G1 F T n s P1 → q_fr G G1 → N ≤ N1 → q_ro P P1 kc ks → (∃ v : Int32, r = .inl (some (.int v))) ∨ q_ex r N1 G1 0 → K r N1 G1 kc ks) : cT 6 sM_106 0 [(0, .ref 5), (1, .int p1)] [] N G K := by
  obtain ⟨u, c, mk, nb, cnt, a, nn, pl, sz, m, f, hJ, hP⟩ := h
  refine j_sleeping (pl := pl) ⟨hJ.1, hJ.2.1⟩ hJ.2.2.2.1 (fun r N1 G1 kc ks n1 cnt1 t1 t2 t3 t4 t5 => ?_)
  obtain ⟨r1, r2⟩ := hJ.lr t1 t2
  refine hK r N1 G1 kc ks (c + 3 * mk + n1 + nn) ⟨u, c, mk, n1, cnt1, a, nn, pl, sz, m, f, r1, rfl⟩ r2 t2.1.1 ⟨by omega, by omega⟩ ?_
  rcases t5 with t5 | ⟨x, j, q1, q2, q3, q4, rfl⟩
  · exact Or.inl t5
  · exact Or.inr ⟨x, q1, q2, q3, q4⟩
set_option maxHeartbeats 1000000 in
/-- count -/
theorem j_Count {p1 : Int32} (h : q_cI N G F T n s P) (hK : ∀ v : Int32, K (.inl (some (.int v))) N G 0 0) : cT 3 sM_7 0 [(0, .ref 5), (1, .int p1)] [] N G K := by
  obtain ⟨u, c, mk, nb, cnt, a, nn, pl, sz, m, f, hJ, hP⟩ := h
  obtain ⟨hI, hB, ⟨ln, at_, d1, d2, d5, d6⟩, e5, ⟨k1, k2, k3, k4, k5, k6, k7, k8, k9, k10, k11⟩, hF⟩ := id hJ
  have h64 := hI.Z.2.1
  obtain ⟨sp, hn, -⟩ := hI
  obtain ⟨st, sl, e9⟩ := hn.2.1
  obtain ⟨mt, fd, e10, -⟩ := hn.1.2.2.2.1
  obtain ⟨us, vr, sz', m', a', n', s', f', e11, -⟩ := hn.1.2.2.2.2
  obtain ⟨s8, f8, p8, -⟩ := hn.1.1.rw (hn.1.2.1.row (x := 18) (Or.inl rfl))
  have h5 : 5 < N := by omega
  have h9 : 9 < N := by omega
  refine k_7_0 ⟨fun _ => ⟨h5, pl, e5, hK _⟩, fun _ => ⟨h5, pl, e5, by omega, ln, at_, d1, hK _⟩, fun _ => ⟨h5, pl, e5, by omega, a, sz, m, k1, hK _⟩, fun _ => ⟨h5, pl, e5, h9, st, sp, sl, e9, hK _⟩, fun _ => ⟨h5, pl, e5, h9, st, sp, sl, e9, j_gir (r := 0) hn (fun v _ => ⟨rfl, rfl, rfl, rfl, v, rfl, hK v⟩)⟩, fun _ => ⟨h5, pl, e5, h9, st, sp, sl, e9, by omega, s8, p8, hK _⟩, fun _ => ⟨h5, pl, e5, h9, st, sp, sl, e9, by omega, mt, fd, e10, by omega, us, vr, e11, hK _⟩, fun _ => ⟨h5, pl, e5, h9, st, sp, sl, e9, hK _⟩, fun _ => ⟨h5, pl, e5, h9, st, sp, sl, e9, hK _⟩, fun _ => ⟨fun _ => hK _, fun h10 => ⟨fun _ => hK _, fun h14 => ⟨h5, pl, e5, h9, st, sp, sl, e9, fun _ => hK _, fun g0 => ⟨fun _ => hK _, fun g4 => ?_⟩⟩⟩⟩⟩
  obtain ⟨f17, x, q1, q2, q3⟩ := hn.2.rowN g0 g4
  have hb := q3.le
  obtain ⟨sr, fr, p1', -⟩ := hn.1.1.rw (hn.1.2.1.row q3)
  exact ⟨by omega, f17, q1, g0, g4, x, q2, by omega, by omega, sr, p1', hK _⟩
/-- a text that could not be read: the place, the empty text, an exception -/
theorem q_addF {N5 : Nat} {G5 : Nat → sx_C} (hJ : q_cJ N G F T n s u c mk nb cnt a nn pl sz m f) (t2 : q_RX q_w6 N G N5 G5) (r6 : G5 7 = .inl (1, (48, .inl T))) (at5 : Int32) : q_cJ (N5 + 1) (va_up (va_up (va_up G5 6 (oC 1 [.ref 7, .int 0, .int at5])) 5 (oC 0 [.ref 6, .int at5, .ref 8, .ref 9, .ref 31])) N5 (.inr (.inr 0))) F T 0 s u c mk nb cnt a nn at5 sz m f ∧ q_fr G (va_up (va_up (va_up G5 6 (oC 1 [.ref 7, .int 0, .int at5])) 5 (oC 0 [.ref 6, .int at5, .ref 8, .ref 9, .ref 31])) N5 (.inr (.inr 0))) := by
  have h64 := hJ.1.Z.2.1
  obtain ⟨hI, hB, ⟨ln, at_, d1, d2, d5, d6⟩, e5, ⟨k1, k2, k3, k4, k5, k6, k7, k8, k9, k10, k11⟩, hF⟩ := id hJ
  have hN5 := t2.1
  have un : ∀ q, q < N → q ≠ 6 → G5 q = G q := fun q hq q6 => t2.2.1 q hq q6
  have a6 : a ≠ 6 := fun q => by
    rw [q, d1] at k5
    exact oa_ne k5
  have a5 : a ≠ 5 := fun q => by
    rw [q, e5] at k5
    exact oa_ne k5
  have uu : ∀ q, q < N → q ≠ 5 → q ≠ 6 → (va_up (va_up (va_up G5 6 (oC 1 [.ref 7, .int 0, .int at5])) 5 (oC 0 [.ref 6, .int at5, .ref 8, .ref 9, .ref 31])) N5 (.inr (.inr 0))) q = G q := fun q hq q5 q6 => by
    rw [va_ne (by omega), va_ne q5, va_ne q6]
    exact un q hq q6
  refine hJ.any (N1 := N5 + 1) (F1 := F) (by omega) (fun q hq q5 q6 _ _ _ => uu q hq q5 q6) (fun q q1 q2 => ?_) (by rw [va_ne (by omega), up_eq]) ⟨0, at5, by rw [va_ne (by omega), va_ne (by decide), up_eq], rfl, by omega, by rw [va_ne (by omega), va_ne (by decide), va_ne (by decide)]; exact r6⟩ ((uu 8 (by omega) (by decide) (by decide)).trans k1) k2 k3 (by omega) ((uu a k4 a5 a6).trans k5) k6 k7 k8 (Or.inl rfl) ⟨f, (uu a k4 a5 a6).trans k5⟩ (fun q z => Or.inl z) (fun q z => z) (fun i hi => ?_)
  · by_cases q' : q = N5
    · rw [q', up_eq]
      exact Or.inr ⟨0, rfl⟩
    · rw [va_ne q', va_ne (by omega), va_ne (by omega)]
      exact Or.inl (t2.2.2.1 q q1 (by omega))
  · obtain ⟨q, z1, z2⟩ := k9 i hi
    exact ⟨q, z1, z2.fr (by omega) (fun _ z => z) (fun q z => uu q (hF.1 q z).1 (hF.1 q z).2.2.2.1 (hF.1 q z).2.2.2.2.1)⟩
set_option maxHeartbeats 2000000 in
/-- add -/
theorem j_Add (h : q_cI N G F T n s P)
    (hK12 : s = 12 → ∀ G1, q_cI (N + 1) G1 F T 0 s P → q_fr G G1 → G1 N = .inr (.inr 1) → K (.inr N) (N + 1) G1 1 6)
    (hKT : s < 12 → pC T n = true → ∀ (v : Int32) N1 G1 F1 kc ks P1, q_cI N1 G1 F1 T 0 (s + 1) P1 → q_fr G G1 → N ≤ N1 → q_ro P P1 kc ks → v.toInt = ((s + 1 : Nat) : Int) → K (.inl (some (.int v))) N1 G1 kc ks)
    (hKF : s < 12 → pC T n = false → ∀ r N1 G1 F1 kc ks P1, q_cI N1 G1 F1 T 0 s P1 → q_fr G G1 → N ≤ N1 → q_ro P P1 kc ks → q_ex r N1 G1 0 → K r N1 G1 kc ks) : cT 65 sM_23 0 [(0, .ref 5)] [] N G K := by
  have hz := h.z
  obtain ⟨u, c, mk, nb, cnt, a, nn, pl, sz, m, f, hJ, hP⟩ := id h
  obtain ⟨hI, hB, ⟨ln, at_, d1, d2, d5, d6⟩, e5, ⟨k1, k2, k3, k4, k5, k6, k7, k8, k9, k10, k11⟩, hF⟩ := id hJ
  have h64 := hz.1
  obtain ⟨f1, h1⟩ := hI.Z.2.a 1 4 0 rfl
  refine k_23_0 ⟨by omega, pl, e5, by omega, a, sz, m, k1, fun hlt => ⟨by omega, ln, at_, d1, ?_⟩, fun hge => ⟨by omega, ln, at_, d1, ?_⟩⟩
  · refine j_clause h64 ⟨ln, at_, d1, d2, d5, d6⟩ hI.Z.2.2.1 ⟨f1, h1⟩ (fun N5 G5 y kc ks t1 t2 t3 t4 t5 t6 t7 => ?_) (fun N5 G5 kc ks t1 t2 t3 t4 t5 => ?_)
    · obtain ⟨e, t3⟩ := t3
      obtain ⟨ln5, at5, r1, r2, r3, r4, r5, r6⟩ := t3
      have hN5 := t2.1
      have un : ∀ q, q < N → q ≠ 6 → G5 q = G q := fun q hq q6 => t2.2.1 q hq q6
      have e55 := (un 5 (by omega) (by decide)).trans e5
      have a6 : a ≠ 6 := fun q => by
        rw [q, d1] at k5
        exact oa_ne k5
      have k15 := (un 8 (by omega) (by decide)).trans k1
      have k55 := (un a k4 a6).trans k5
      refine ⟨some y, rfl, by omega, pl, e55, by omega, ln5, at5, r1, fun q => (by cases q), fun x ex => ⟨by omega, a, sz, m, (va_ne (by decide)).trans k15, ?_⟩⟩
      cases ex
      have e6 : ∀ q, q ≠ 6 → (va_up G5 6 (oC 1 [.ref 7, .int 0, .int at5])) q = G5 q := fun q z => va_ne z
      have e66 : (va_up G5 6 (oC 1 [.ref 7, .int 0, .int at5])) 6 = oC 1 [.ref 7, .int 0, .int at5] := up_eq
      generalize (va_up G5 6 (oC 1 [.ref 7, .int 0, .int at5])) = H at e6 e66 ⊢
      obtain ⟨j4, m4⟩ := hI.Z.2.2.1
      obtain ⟨y5, yN, yF, tt, gg, ll, mm1, mm2, w1, w2, w3, ey, -⟩ := id t4
      have hcl : q_Cl (q_f1 N N5) N5 H y := t4.fr (Nat.le_refl _) (fun _ z => z) (fun q z => e6 q (by
        rcases z with z | z
        · have := z.1
          omega
        · omega))
      -- what stands once the CLAUSE is in the list
      have fin : ∀ (N2 : Nat) (G2 : Nat → sx_C) (kc2 ks2 a2 nn2 : Nat) (f2 : Nat → Option Nat), N5 ≤ N2 → (∀ q, q < N5 → q ≠ 8 → q ≠ a → G2 q = H q) → (a2 = a ∨ (a2 = N5 ∧ N2 = N5 + 1 ∧ G2 a = H a)) → (a2 = a → N2 = N5) → G2 8 = oC 13 [.ref a2, .int (sz + 1), .int (m + 1)] → G2 a2 = aC 4 nn2 f2 → 64 < a2 → 10 ≤ nn2 → s + 1 ≤ nn2 → nn2 ≤ 40 → (∀ i, i < s → f2 i = f i) → f2 s = some y → nn ≤ nn2 → kc2 + nn ≤ nn2 → ks2 + 8 * nn ≤ 8 * nn2 → (∃ fb, G2 a = aC 4 nn fb) →
          ∃ v14 : Int32, (Sum.inl (some (.int 1)) : Option Value ⊕ Nat) = .inl (some (.int v14)) ∧ 5 < N2 ∧ ∃ (i15_1 : Int32), G2 5 = oC 0 [.ref 6, .int i15_1, .ref 8, .ref 9, .ref 31] ∧ 8 < N2 ∧ ∃ (r16_0 : Nat) (i16_1 : Int32) (i16_2 : Int32), G2 8 = oC 13 [.ref r16_0, .int i16_1, .int i16_2] ∧ K (.inl (some (.int i16_1))) (N2) G2 (kc + kc2) (ks + ks2) := by
        intro N2 G2 kc2 ks2 a2 nn2 f2 z1 z2 z3 z4 z5 z6 z7 z8 z9 z10 z11 z12 z13 z14 z15 z16
        have a5 : a ≠ 5 := fun q => by
          rw [q, e5] at k5
          exact oa_ne k5
        have a7 : a ≠ 7 := fun q => by
          rw [q, d6] at k5
          cases k5
        have g5 : G2 5 = oC 0 [.ref 6, .int pl, .ref 8, .ref 9, .ref 31] := (z2 5 (by omega) (by decide) (Ne.symm a5)).trans ((e6 5 (by decide)).trans e55)
        have esz : (sz + 1).toInt = ((s + 1 : Nat) : Int) := by
          rw [i32_succ (by omega) (by omega), k2]
          omega
        refine ⟨1, rfl, by omega, pl, g5, by omega, a2, sz + 1, m + 1, z5, ?_⟩
        have hF1 : ∀ q, (F q ∨ (q_f1 N N5 q)) → q < N5 ∧ q ≠ 8 ∧ (q = a → a = 1) := by
          intro q z
          rcases z with z | z | z
          · obtain ⟨y1, y2, y3, y4, y5, y6, y7, y8⟩ := hF.1 q z
            exact ⟨by omega, y7, y8⟩
          · exact ⟨z.2, by have := z.1; omega, fun w => by have := z.1; omega⟩
          · exact ⟨by omega, by omega, fun w => w.symm.trans z⟩
        have uF : ∀ q, (F q ∨ (q_f1 N N5 q)) → G2 q = H q := by
          intro q z
          obtain ⟨y1, y2, y3⟩ := hF1 q z
          by_cases qa : q = a
          · have ha1 := y3 qa
            rcases z3 with z3 | ⟨z3, -, z3'⟩
            · omega
            · rw [qa]
              exact z3'
          · exact z2 q y1 y2 qa
        have hw : q_cJ N2 G2 (fun q => F q ∨ q_f1 N N5 q) T 0 (s + 1) u c mk nb cnt a2 nn2 pl (sz + 1) (m + 1) f2 ∧ q_fr G G2 := by
          refine hJ.any (N1 := N2) (G1 := G2) (F1 := fun q => F q ∨ q_f1 N N5 q) (T1 := T) (n1 := 0) (s1 := s + 1) (by omega) (fun q hq q5 q6 q7 q8 qa => ?_) (fun q q1 q2 => ?_) g5 ⟨0, at5, (z2 6 (by omega) (by decide) (Ne.symm a6)).trans e66, rfl, by omega, (z2 7 (by omega) (by decide) (Ne.symm a7)).trans ((e6 7 (by decide)).trans r6)⟩ z5 esz (by omega) (by omega) z6 z9 z10 (Or.inr ⟨z7, z8⟩) (by omega) z16 (fun q z => ?_) (fun q z => Or.inl z) (fun i hi => ?_)
          · by_cases q' : q = a
            · have ha1 := qa q'
              rcases z3 with z3 | ⟨z3, -, z3'⟩
              · omega
              · rw [q', z3']
                exact (e6 a a6).trans (un a k4 a6)
            · exact (z2 q (by omega) q8 q').trans ((e6 q q6).trans (un q hq q6))
          · by_cases q' : q < N5
            · rw [z2 q q' (by omega) (by omega), e6 q (by omega)]
              exact Or.inl (t2.2.2.1 q q1 q')
            · rcases z3 with z3 | ⟨z3, z3', -⟩
              · have := z4 z3
                omega
              · rw [show q = a2 by omega, z6]
                exact Or.inl (Or.inr ⟨4, _, _, rfl, Or.inr rfl⟩)
          · rcases z with z | z | z
            · exact Or.inl z
            · exact Or.inr ⟨z.1, by have := z.2; omega, by have := z.1; have := z.2; omega⟩
            · rw [z]
              exact Or.inl hF.2.1
          · by_cases q : i = s
            · rw [q]
              exact ⟨y, z12, hcl.fr (by omega) (fun q z => Or.inr z) (fun q z => uF q (Or.inr z))⟩
            · obtain ⟨x, x1, x2⟩ := k9 i (by omega)
              exact ⟨x, (z11 i (by omega)).trans x1, x2.fr (by omega) (fun q z => Or.inl z) (fun q z => (uF q (Or.inl z)).trans ((e6 q (hF.1 q z).2.2.2.2.1).trans (un q (hF.1 q z).1 (hF.1 q z).2.2.2.2.1)))⟩
        exact hKT (by omega) t1 (sz + 1) N2 G2 _ _ _ (c + 3 * mk + nb + nn2) ⟨u, c, mk, nb, cnt, a2, nn2, pl, sz + 1, m + 1, f2, hw.1, rfl⟩ hw.2 (by omega) ⟨by omega, by omega⟩ esz
      have ka5 := (e6 a a6).trans k55
      refine c_ladd (cy := 8) (s := s) ⟨by omega, j4, (e6 4 (by decide)).trans ((un 4 (by omega) (by decide)).trans m4)⟩ (by decide) (by omega) ((e6 8 (by decide)).trans k15) k2 (by omega) ka5 k6 (by omega) (by omega) (fun i hi => ?_) y5 yN ((e6 y (by omega)).trans ey) (by omega) rfl (fun hlt' G2 g1 g2 g3 => ?_) (fun heq G2 n1 f1' s1 s2 s3 s4 g1 g2 g3 g4 g5 => ?_)
      · obtain ⟨x, x1, x2⟩ := k9 i hi
        intro z ez
        rw [x1] at ez
        cases ez
        obtain ⟨x5, xN, xF, t', g', l', m1', m2', w1', w2', w3', ex', -⟩ := x2
        exact ⟨x5, by omega, 8, _, (e6 x (hF.1 x xF).2.2.2.2.1).trans ((un x (hF.1 x xF).1 (hF.1 x xF).2.2.2.2.1).trans ex'), rfl⟩
      · exact fin N5 G2 0 0 a nn (va_up f s (some y)) (Nat.le_refl _) (fun q hq q8 qa => g1 q q8 qa) (Or.inl rfl) (fun _ => rfl) g2 g3 (by omega) (by omega) (by omega) k7 (fun i hi => va_ne (by omega)) up_eq (by omega) (by omega) (by omega) ⟨_, g3⟩
      · exact fin (N5 + 1) G2 1 n1 N5 n1 f1' (by omega) (fun q hq q8 qa => g1 q hq q8) (Or.inr ⟨rfl, rfl, g1 a (by omega) (fun q => by rw [q, k1] at k5; exact oa_ne k5)⟩) (fun q => by omega) g2 g3 (by omega) (by omega) (by omega) (by omega) g4 g5 (by omega) (by omega) (by omega) ⟨f, (g1 a (by omega) (fun q => by rw [q, k1] at k5; exact oa_ne k5)).trans ka5⟩
    · obtain ⟨e, t3⟩ := t3
      obtain ⟨ln5, at5, r1, r2, r3, r4, r5, r6⟩ := t3
      have hN5 := t2.1
      have un : ∀ q, q < N → q ≠ 6 → G5 q = G q := fun q hq q6 => t2.2.1 q hq q6
      have e55 := (un 5 (by omega) (by decide)).trans e5
      refine ⟨none, rfl, by omega, pl, e55, by omega, ln5, at5, r1, fun _ => ?_, fun x ex => (by cases ex)⟩
      obtain ⟨w1, w2⟩ := q_addF hJ t2 r6 at5
      exact hKF (by omega) t1 _ _ _ _ _ _ P ⟨u, c, mk, nb, cnt, a, nn, at5, sz, m, f, w1, hP⟩ w2 (by omega) ⟨by omega, by omega⟩ ⟨N5, rfl, by omega, by omega, up_eq⟩
  · have hs12 : s = 12 := by omega
    obtain ⟨w1, w2⟩ := h.txt (G1 := va_up G 6 (oC 1 [.ref 7, .int 0, .int at_])) (T1 := T) (n1 := 0) (fun q q6 _ => va_ne q6) ⟨0, at_, up_eq, rfl, by omega, (va_ne (by decide)).trans d6⟩
    obtain ⟨w3, w4⟩ := w1.exc (j := 1)
    exact hK12 hs12 _ w3 (fun q z => (w4 q z).trans (w2 q z)) up_eq
end QCa
