/-! step: a GOAL is taken from its row; run -/
section RU
variable {v v1 : Nat → Int32} {a a1 : Nat → Nat → Int32} {c w : Nat} {K : Int32 → (Nat → Int32) → (Nat → Nat → Int32) → Prop}
/-- the first of a row goes, the others move up -/
theorem rW_take {P : Nat → Prop} {l g0 : Nat} {x : Int32} (h : rW a P) (hl : l < 4) (hb : ∀ l, l < 4 → sz a l ≤ 60) (hs : 0 < sz a l) (h0 : (a 27 (l * 61)).toInt = (g0 : Int)) (e28 : a1 28 = upd (a 28) l x) (hx : x.toInt + 1 = ((sz a l : Nat) : Int)) (hsh : ∀ i, i + 1 < sz a l → a1 27 (l * 61 + i) = a 27 (l * 61 + i + 1)) (hot : ∀ y, (y < l * 61 ∨ l * 61 + 60 ≤ y) → a1 27 y = a 27 y) : rW a1 (fun g => P g ∧ g ≠ g0) := by
  obtain ⟨h1, h2, h3⟩ := h
  have s1 : sz a1 l + 1 = sz a l := by
    rw [sz_up e28, if_pos rfl]
    omega
  have s2 : ∀ l', l' ≠ l → sz a1 l' = sz a l' := fun l' hl' => by rw [sz_up e28, if_neg hl']
  -- where a place of the new rows was before
  have was : ∀ l', l' < 4 → ∀ i, i < sz a1 l' → ∃ i0, i0 < sz a l' ∧ a1 27 (l' * 61 + i) = a 27 (l' * 61 + i0) ∧ (l' = l → i0 = i + 1) ∧ (l' ≠ l → i0 = i) := by
    intro l' hl' i hi
    by_cases e : l' = l
    · subst e
      exact ⟨i + 1, by omega, hsh i (by omega), fun _ => rfl, fun z => absurd rfl z⟩
    · rw [s2 l' e] at hi
      have b1 := hb l' hl'
      refine ⟨i, hi, hot _ ?_, fun z => absurd z e, fun _ => rfl⟩
      rcases Nat.lt_or_gt_of_ne e with q | q <;> omega
  refine ⟨fun l' hl' => ?_, fun l' hl' i hi => ?_, fun l' l'' hl' hl'' i i' hi hi' he => ?_⟩
  · rw [e28]
    by_cases e : l' = l
    · subst e
      rw [ud_eq]
      omega
    · rw [ud_ne e]
      exact h1 l' hl'
  · obtain ⟨i0, k1, k2, k3, k4⟩ := was l' hl' i hi
    obtain ⟨g, g1, g2, g3⟩ := h2 l' hl' i0 k1
    refine ⟨g, g1, by rw [k2]; exact g2, g3, fun e => ?_⟩
    subst e
    have q := h3 l' l hl' hl i0 0 k1 hs (by rw [g2, Nat.add_zero, h0])
    have := k3 q.1
    omega
  · obtain ⟨i0, k1, k2, k3, k4⟩ := was l' hl' i hi
    obtain ⟨j0, m1, m2, m3, m4⟩ := was l'' hl'' i' hi'
    rw [k2, m2] at he
    obtain ⟨q1, q2⟩ := h3 l' l'' hl' hl'' i0 j0 k1 m1 he
    subst q1
    refine ⟨rfl, ?_⟩
    by_cases e : l' = l
    · have := k3 e
      have := m3 e
      omega
    · have := k4 e
      have := m4 e
      omega
theorem c_shift {p1 p2 : Int32} {l s : Nat} {a0 : Nat → Nat → Int32} (hp1 : p1.toInt = (l : Int)) (hl : l < 4) (hs : s ≤ 59) (h28 : (a0 28 l).toInt = (s : Int))
    (hC : ∀ (a1 : Nat → Nat → Int32) (p3 : Int32), p3.toInt = (s : Int) → fr [27] a0 a1 → (∀ i, i < s → a1 27 (l * 61 + i) = a0 27 (l * 61 + i + 1)) → (∀ y, (y < l * 61 ∨ l * 61 + 60 ≤ y) → a1 27 y = a0 27 y) → mT 7 sM_134 65 [(0, .ref 33), (1, .int p1), (2, .int p2), (3, .int p3)] [] v a1 K) : ∀ (k j : Nat) (p3 : Int32) (a : Nat → Nat → Int32), p3.toInt = (j : Int) → j + k = s → fr [27] a0 a → (∀ i, i < j → a 27 (l * 61 + i) = a0 27 (l * 61 + i + 1)) → (∀ y, ¬ (l * 61 ≤ y ∧ y < l * 61 + j) → a 27 y = a0 27 y) → mT 7 sM_134 65 [(0, .ref 33), (1, .int p1), (2, .int p2), (3, .int p3)] [] v a K := by
  intro k
  induction k with
  | zero =>
    intro j p3 a h3 hj f1 f2 f3
    obtain rfl : j = s := by omega
    exact hC a p3 h3 f1 f2 (fun y hy => f3 y (by omega))
  | succ k ih =>
    intro j p3 a h3 hj f1 f2 f3
    have e28 : a 28 = a0 28 := f1 28 (by decide)
    have t61 : ((61 : Int32)).toInt = 61 := by decide
    have e1 : (p1 * 61 + p3).toInt = ((l * 61 + j : Nat) : Int) := i32_add (by rw [i32_mul (s := (l : Int) * 61) (by rw [hp1, t61]) (by omega) (by omega)]; omega) (by omega) (by omega)
    have e2 : (p1 * 61 + p3 + 1).toInt = ((l * 61 + j + 1 : Nat) : Int) := by
      rw [i32_succ (by omega) (by omega)]
      omega
    refine r_134_65 ⟨by omega, by omega, fun z => ?_, fun _ => ⟨by omega, by omega, by omega, by omega, ?_⟩⟩
    · rw [i32_cl hp1, e28, h28] at z
      exact absurd z (by omega)
    · rw [i32_cl e1, i32_cl e2]
      refine ih (j + 1) (p3 + 1) _ (by rw [i32_succ (by omega) (by omega)]; omega) (by omega) (f1.up (by decide)) (fun i hi => ?_) (fun y hy => ?_)
      · show upd (a 27) (l * 61 + j) (a 27 (l * 61 + j + 1)) (l * 61 + i) = _
        by_cases e : i = j
        · subst e
          rw [ud_eq]
          exact f3 _ (by omega)
        · rw [ud_ne (by omega)]
          exact f2 i (by omega)
      · show upd (a 27) (l * 61 + j) _ y = _
        rw [ud_ne (by omega)]
        exact f3 y (by omega)
theorem c_level {P : Nat → Prop} (h : rW a P) (hb : ∀ l, l < 4 → sz a l ≤ 60) (hC : ∀ (l : Nat) (p1 : Int32), l < 4 → 0 < sz a l → p1.toInt = (l : Int) → mT 7 sM_134 28 [(0, .ref 33), (1, .int p1)] [] v a K) : ∀ (k : Nat) (p1 : Int32), p1.toInt = (k : Int) → k < 4 → (∀ l, k < l → l < 4 → sz a l = 0) → 0 < sS a → mT 7 sM_134 28 [(0, .ref 33), (1, .int p1)] [] v a K := by
  intro k
  induction k with
  | zero =>
    intro p1 h1 hk hz hs
    refine hC 0 p1 (by omega) ?_ h1
    unfold sS at hs
    have := hz 1 (by omega) (by omega)
    have := hz 2 (by omega) (by omega)
    have := hz 3 (by omega) (by omega)
    omega
  | succ k ih =>
    intro p1 h1 hk hz hs
    by_cases e : sz a (k + 1) = 0
    · have es := sz_eq (h.1 (k + 1) hk)
      have o1 : p1.toInt - 1 = (k : Int) := by omega
      have o2 : -1000000 ≤ p1.toInt := by omega
      have o3 : p1.toInt ≤ 1000000 := by omega
      have o4 : 0 ≤ p1.toInt := by omega
      have o5 : p1.toInt < 4 := by omega
      have o6 : (a 28 (k + 1)).toInt = 0 := by omega
      have o7 : k < 4 := by omega
      refine r_134_28 ⟨o4, o5, fun z => ?_, fun _ => ih (p1 + (-1)) ((i32_pred o2 o3).trans o1) o7 (fun l hl hl4 => ?_) hs⟩
      · rw [i32_cl h1] at z
        exact absurd o6 z
      · by_cases e2 : l = k + 1
        · subst e2
          exact e
        · exact hz l (by omega) hl4
    · exact hC (k + 1) p1 hk (by omega) h1
/-- step() -/
theorem c_step {C : Nat} (hc : c + 60 ≤ 25990) (hw : w + 27 ≤ 12000) (hC : C ≤ 12) (h8 : (v 8).toInt = (C : Int)) (hct : ct a C) (hg : gr a c w) (h37 : (v 37).toInt = (c : Int)) (h38 : (v 38).toInt = (w : Int)) (h39 : 0 ≤ (v 39).toInt ∧ (v 39).toInt ≤ 400) (h : gi v a c w (fun _ => False) 0) (hs : 0 < sS a)
    (hK1 : (v 39).toInt = 400 → K 0 (va_up v 11 2) a) (hK2 : ∀ v1 a1, (v 39).toInt ≠ 400 → (v1 39).toInt = (v 39).toInt + 1 → sP (va_up v 39 (v 39 + 1)) a c w v1 a1 → K 0 v1 a1) : mT 7 sM_134 0 [(0, .ref 33)] [] v a K := by
  refine r_134_0 ⟨fun hne => ?_, hK1⟩
  have e39 : (v 39 + 1).toInt = (v 39).toInt + 1 := i32_succ (by omega) (by omega)
  have hb := h.bound
  have h' : gi (va_up v 39 (v 39 + 1)) a c w (fun _ => False) 0 := h.of (Nat.le_refl _) (Nat.le_refl _) rfl (fun _ _ => rfl)
  obtain ⟨h1, ⟨z, z1, z2, z3, z4⟩, h3, h4⟩ := id h'
  have fin : ∀ v1 a1, sP (va_up v 39 (v 39 + 1)) a c w v1 a1 → K 0 v1 a1 := by
    intro v1 a1 hP
    obtain ⟨c1, w1, k1, k2, k3, k4, k5, k6, k7, k8, k9, k10, k11⟩ := id hP
    refine hK2 v1 a1 hne ?_ hP
    rw [k10 39 (by decide)]
    exact e39
  refine c_level h1 hb (fun l p1 hl hsl hp1 => ?_) 3 3 (by decide) (by decide) (fun l q1 q2 => absurd q1 (by omega)) hs
  obtain ⟨g0, g1, g2, g3⟩ := h1.2.1 l hl 0 hsl
  rw [Nat.add_zero] at g2
  have es := sz_eq (h1.1 l hl)
  have sl := hb l hl
  have t61 : ((61 : Int32)).toInt = 61 := by decide
  have e61 : (p1 * 61).toInt = ((l * 61 : Nat) : Int) := i32_mul (by rw [hp1, t61]; omega) (by omega) (by omega)
  have ex : (a 28 l - 1).toInt = (((sz a l - 1 : Nat)) : Int) := i32_sub (by rw [es, show ((1 : Int32)).toInt = 1 from by decide]; omega) (by omega) (by omega)
  refine r_134_28 ⟨by omega, by omega, fun _ => ?_, fun y => ?_⟩
  · rw [i32_cl hp1, i32_cl e61, e61]
    refine ⟨by omega, by omega, by omega, by omega, by omega, by omega, ?_⟩
    refine c_shift (a0 := va_up a 28 (upd (a 28) l (a 28 l - 1))) (s := sz a l - 1) hp1 hl (by omega) (by show (upd (a 28) l (a 28 l - 1) l).toInt = _; rw [ud_eq]; exact ex) (fun a1 p3 hp3 f1 f2 f3 => ?_) (sz a l - 1) 0 0 _ (by decide) (by omega) fr.rfl' (fun i hi => absurd hi (by omega)) (fun _ _ => rfl)
    -- the GOAL is in hand
    have f27 : ∀ i, i + 1 < sz a l → a1 27 (l * 61 + i) = a 27 (l * 61 + i + 1) := fun i hi => f2 i (by omega)
    have e28 : a1 28 = upd (a 28) l (a 28 l - 1) := f1 28 (by decide)
    have fA : ∀ j, j ≠ 27 → j ≠ 28 → a1 j = a j := fun j q1 q2 => (f1 j (fun y => q1 (List.mem_singleton.mp y))).trans (va_ne q2)
    have hw1 := rW_take h1 hl hb hsl g2 e28 (by omega) f27 (fun y hy => f3 y hy)
    have eS := sS_dec (a := a) (a1 := a1) hl e28 (by omega) (by omega)
    have hgi1 : gi (va_up v 39 (v 39 + 1)) a1 c w (fun g => g = g0) 1 := by
      refine ⟨hw1.imp rfl rfl (fun g _ q => ?_), ⟨z, z1, ?_, ?_, by omega⟩, fun g hg6 => ?_, fun g hg6 q => ?_⟩
      · rw [fA 30 (by decide) (by decide), fA 25 (by decide) (by decide)]
        exact ⟨q.1.1, q.1.2.1, q.2⟩
      · rw [fA 25 (by decide) (by decide)]
        exact z2
      · rw [fA 30 (by decide) (by decide)]
        omega
      · rw [fA 25 (by decide) (by decide), fA 30 (by decide) (by decide)]
        exact h3 g hg6
      · rw [fA 30 (by decide) (by decide)] at q
        exact (h4 g hg6 q).of (Nat.le_refl _) (Nat.le_refl _) (fA 18 (by decide) (by decide)) (fA 19 (by decide) (by decide)) (fA 20 (by decide) (by decide)) (fA 21 (by decide) (by decide)) (fA 22 (by decide) (by decide))
    have hu : (a1 30 g0).toInt ≠ 0 := by rw [fA 30 (by decide) (by decide)]; exact g3.1
    have hsl0 : (a1 25 g0).toInt = 0 := by rw [fA 25 (by decide) (by decide)]; exact g3.2.1
    have hg1 : gr a1 c w := hg.of (fA 15 (by decide) (by decide)) (fA 16 (by decide) (by decide)) (fA 17 (by decide) (by decide))
    have oA : fr lA a a1 := fun j hj => fA j (nin hj (by decide)) (nin hj (by decide))
    have sub : ∀ v2 a2, sP (va_up v 39 (v 39 + 1)) a1 c w v2 a2 → sP (va_up v 39 (v 39 + 1)) a c w v2 a2 := by
      intro v2 a2 ⟨c1, w1, k1, k2, k3, k4, k5, k6, k7, k8, k9, k10, k11⟩
      exact ⟨c1, w1, k1, k2, k3, k4, k5, k6, k7, k8, k9, k10, oA.trans k11⟩
    have hgf := hgi1.2.2.2 g0 g1 hu
    refine r_134_65 ⟨by omega, by omega, fun _ => ⟨by omega, by omega, fun k0 => ⟨by omega, by omega, fun k2 => ⟨by omega, by omega, by omega, by omega, by omega, by omega, ?_⟩, fun k2 => ?_⟩, fun k0 => ?_⟩, fun y => ?_⟩
    · rw [i32_cl g2] at k0 k2 ⊢
      refine c_same (v := va_up v 39 (v 39 + 1)) (a := va_up a1 30 (upd (a1 30) g0 0)) (c := c) (w := w) (hg1.of rfl rfl rfl) (by omega) (by omega) (hgi1.clear g1 hu hsl0) hgf.2.1 (hgf.2.2.2.1 k0) (fun r v2 a2 q1 q2 q3 q4 => fin _ _ (sub _ _ ?_))
      refine sP.of_gi (c1 := c) (w1 := w) (Nat.le_refl _) (by omega) (Nat.le_refl _) (by omega) q1 (by show (v2 37).toInt = _; rw [q3 37 (by decide)]; exact h37) (by show (v2 38).toInt = _; rw [q3 38 (by decide)]; exact h38) (q2.of (Nat.le_refl _) (Nat.le_refl _) rfl (fun _ _ => rfl)) ((q3.sub (by decide)).up (by decide)) ((fr.rfl'.up (by decide)).trans (q4.sub (by decide)))
    · rw [i32_cl g2] at k2
      exact c_reckon g2 g1 hg1 (by omega) (by omega) h37 h38 hgi1 hu hsl0 k2 (fun v2 a2 q => fin _ _ (sub _ _ q))
    · rw [i32_cl g2] at k0
      refine c_call g2 g1 hc hw hC h8 ?_ hg1 h37 h38 hgi1 hu hsl0 k0 (fun v2 a2 q => fin _ _ (sub _ _ q))
      intro ci hci
      rw [fA 1 (by decide) (by decide), fA 2 (by decide) (by decide)]
      exact hct ci hci
    · rw [i32_cl hp1, e28, ud_eq] at y
      exact absurd y (by omega)
  · rw [i32_cl hp1] at y
    exact absurd y (by omega)
end RU
/-- a QUESTION that was asked -/
def qI (v : Nat → Int32) (a : Nat → Nat → Int32) : Prop := ∃ c w : Nat, gr a c w ∧ (v 37).toInt = (c : Int) ∧ (v 38).toInt = (w : Int) ∧ (0 ≤ (v 39).toInt ∧ (v 39).toInt ≤ 400) ∧ (c : Int) ≤ 49 * ((v 39).toInt + 1) ∧ (w : Int) ≤ 26 * ((v 39).toInt + 1) ∧ slp a ∧ (∀ u, u < 26 → (a 6 u).toInt = 2147483647 ∨ rf c w (a 6 u)) ∧ ((v 42).toInt = 1 → gi v a c w (fun _ => False) 0)
/-- the reference between two calls -/
def mI (v : Nat → Int32) (a : Nat → Nat → Int32) : Prop := (0 ≤ (v 7).toInt ∧ (v 7).toInt ≤ 48) ∧ (∃ C : Nat, C ≤ 12 ∧ (v 8).toInt = (C : Int) ∧ ct a C) ∧ ((v 42).toInt = 0 ∨ qI v a)
section RN
variable {K : Int32 → (Nat → Int32) → (Nat → Nat → Int32) → Prop}
/-- the state while run goes on: gi, or something was thrown -/
def rI (v : Nat → Int32) (a : Nat → Nat → Int32) : Prop := ∃ c w : Nat, gr a c w ∧ (v 37).toInt = (c : Int) ∧ (v 38).toInt = (w : Int) ∧ (0 ≤ (v 39).toInt ∧ (v 39).toInt ≤ 400) ∧ (c : Int) ≤ 49 * ((v 39).toInt + 1) ∧ (w : Int) ≤ 26 * ((v 39).toInt + 1) ∧ slp a ∧ (∀ u, u < 26 → (a 6 u).toInt = 2147483647 ∨ rf c w (a 6 u)) ∧ (gi v a c w (fun _ => False) 0 ∨ (v 11).toInt ≠ 0)
theorem c_run61 {v : Nat → Int32} {a : Nat → Nat → Int32} (hR : rI v a) (h42 : (v 42).toInt = 1) (hK : ∀ r v1, fr [42] v v1 → ((v1 42).toInt ≠ 0 → qI v1 a) → K r v1 a) : mT 8 sM_133 61 [(0, .ref 33)] [] v a K := by
  obtain ⟨c, w, k1, k2, k3, k4, k5, k6, k7, k8, k9⟩ := hR
  have thr : ∀ x : Int32, x.toInt ≠ 1 → K 0 (va_up v 42 x) a := fun x hx => hK 0 _ (fr.rfl'.up (by decide)) (fun _ => ⟨c, w, k1, k2, k3, k4, k5, k6, k7, k8, fun z => absurd z hx⟩)
  have ok : (v 11).toInt = 0 → ∀ r, K r v a := fun z r => hK r v fr.rfl' (fun _ => ⟨c, w, k1, k2, k3, k4, k5, k6, k7, k8, fun _ => k9.resolve_right (fun y => y z)⟩)
  exact r_133_61 ⟨fun _ => ⟨fun _ => thr 3 (by decide), fun _ => thr 2 (by decide)⟩, fun z => ⟨fun _ => ⟨fun _ => ok z 1, fun _ => ok z 2⟩, fun _ => ok z 0⟩⟩
theorem c_run32 {p1 : Int32} {C : Nat} (hp1 : p1.toInt ≤ 100) (hC : C ≤ 12) : ∀ (k : Nat) (p2 : Int32) (v : Nat → Int32) (a : Nat → Nat → Int32), p2.toInt + (k : Int) = 100 → 0 ≤ p2.toInt → rI v a → (v 42).toInt = 1 → (v 8).toInt = (C : Int) → ct a C → (∀ r v1 a1, fr (42 :: 39 :: lV) v v1 → fr lA a a1 → ((v1 42).toInt ≠ 0 → qI v1 a1) → K r v1 a1) → mT 8 sM_133 32 [(0, .ref 33), (1, .int p1), (2, .int p2)] [] v a K := by
  intro k
  induction k with
  | zero =>
    intro p2 v a h2 h20 hR h42 h8 hct hK
    exact r_133_32 ⟨fun _ => c_run61 hR h42 (fun r v1 o q => hK r v1 a (o.sub (by decide)) fr.rfl' q), fun z => absurd z (by omega)⟩
  | succ k ih =>
    intro p2 v a h2 h20 hR h42 h8 hct hK
    have e61 := c_run61 (K := K) hR h42 (fun r v1 o q => hK r v1 a (o.sub (by decide)) fr.rfl' q)
    refine r_133_32 ⟨fun _ => e61, fun hlt => ⟨fun _ => e61, fun hpos => ⟨fun _ => e61, fun hthr => ?_⟩⟩⟩
    obtain ⟨c, w, k1, k2, k3, k4, k5, k6, k7, k8, k9⟩ := hR
    have hgi := k9.resolve_right (fun y => y hthr)
    obtain ⟨q1, ⟨z, z1, z2, z3, z4⟩, q3, q4⟩ := id hgi
    have eR := inR q1 (by omega)
    rw [eR] at hpos
    have e2 : (p2 + 1).toInt = p2.toInt + 1 := i32_succ (by omega) (by omega)
    refine c_step (by omega) (by omega) hC h8 hct k1 k2 k3 k4 hgi (by omega) (fun h400 => ?_) (fun v1 a1 hne h39 hP => ?_)
    · refine ih (p2 + 1) _ a (by omega) (by omega) ⟨c, w, k1, k2, k3, k4, k5, k6, k7, k8, Or.inr (by show (2 : Int32).toInt ≠ 0; decide)⟩ h42 h8 hct (fun r v1 a1 o1 o2 q => hK r v1 a1 ((fr.rfl'.up (by decide)).trans o1) o2 q)
    · obtain ⟨c1, w1, m1, m2, m3, m4, m5, m6, m7, m8, m9, m10, m11⟩ := hP
      have oV : fr (42 :: 39 :: lV) v v1 := (fr.rfl'.up (by decide)).trans (m10.sub (by decide))
      refine ih (p2 + 1) v1 a1 (by omega) (by omega) ⟨c1, w1, m5, m6, m7, by omega, by omega, by omega, m8, fun u hu => ?_, m9⟩ (by rw [m10 42 (by decide)]; exact h42) (by rw [m10 8 (by decide)]; exact h8) (by intro ci hci; rw [m11 1 (by decide), m11 2 (by decide)]; exact hct ci hci) (fun r v2 a2 o1 o2 q => hK r v2 a2 (oV.trans o1) (m11.trans o2) q)
      rw [m11 6 (by decide)]
      exact (k8 u hu).imp id (fun y => y.mono m1 m3)
/-- run(n) keeps the reference whole -/
theorem c_run {v : Nat → Int32} {a : Nat → Nat → Int32} {p1 : Int32} (hM : mI v a) (hK : ∀ r v1 a1, mI v1 a1 → v1 7 = v 7 → v1 8 = v 8 → a1 0 = a 0 → K r v1 a1) : mT 8 sM_133 0 [(0, .ref 33), (1, .int p1)] [] v a K := by
  obtain ⟨m1, ⟨C, hC, h8, hct⟩, m3⟩ := id hM
  have keep : ∀ x : Int32, mI (va_up v 11 x) a := fun x => ⟨m1, ⟨C, hC, h8, hct⟩, m3.imp id (fun ⟨c, w, k1, k2, k3, k4, k5, k6, k7, k8, k9⟩ => ⟨c, w, k1, k2, k3, k4, k5, k6, k7, k8, fun z => (k9 z).of (Nat.le_refl _) (Nat.le_refl _) rfl (fun _ _ => rfl)⟩)⟩
  refine r_133_0 ⟨fun h1 h2 => ⟨fun h42 => ?_, fun _ => hK 0 _ a (keep 2) rfl rfl rfl⟩, fun _ => hK 0 _ a (keep 1) rfl rfl rfl⟩
  obtain ⟨c, w, k1, k2, k3, k4, k5, k6, k7, k8, k9⟩ := m3.resolve_left (by omega)
  refine c_run32 (C := C) h2 hC 100 0 _ a (by decide) (by decide) ⟨c, w, k1, k2, k3, k4, k5, k6, k7, k8, Or.inl ((k9 h42).of (Nat.le_refl _) (Nat.le_refl _) rfl (fun _ _ => rfl))⟩ h42 h8 hct (fun r v1 a1 o1 o2 q => hK r v1 a1 ⟨?_, ⟨C, hC, ?_, ?_⟩, ?_⟩ (o1 7 (by decide)) (o1 8 (by decide)) (o2 0 (by decide)))
  · rw [o1 7 (by decide)]
    exact m1
  · rw [o1 8 (by decide)]
    exact h8
  · intro ci hci
    rw [o2 1 (by decide), o2 2 (by decide)]
    exact hct ci hci
  · by_cases z : (v1 42).toInt = 0
    · exact Or.inl z
    · exact Or.inr (q z)
end RN
