/-! type, add, drop of the reference -/
/-- the character at byte j of eight; the characters from byte j - 1 down to byte 0; are they all characters of a text -/
def tch (e : Int64) (j : Nat) : Int32 := ty_b e (Int32.ofInt (8 * (j : Int)))
def tl (e : Int64) : Nat → List Int32
  | 0 => []
  | j + 1 => if (tch e j).toInt = 0 then tl e j else tch e j :: tl e j
def tok (e : Int64) : Nat → Bool
  | 0 => true
  | j + 1 => decide ((tch e j).toInt = 0 ∨ (33 ≤ (tch e j).toInt ∧ (tch e j).toInt ≤ 126)) && tok e j
theorem tl_len (e : Int64) : ∀ j, (tl e j).length ≤ j := by
  intro j
  induction j with
  | zero => exact Nat.le_refl _
  | succ j ih =>
    unfold tl
    split
    · omega
    · rw [List.length_cons]
      omega
theorem tl_s0 {e : Int64} {j : Nat} (h : (tch e j).toInt = 0) : tl e (j + 1) = tl e j := if_pos h
theorem tl_s1 {e : Int64} {j : Nat} (h : (tch e j).toInt ≠ 0) : tl e (j + 1) = tch e j :: tl e j := if_neg h
theorem tch_of {e : Int64} {p : Int32} {j : Nat} (h : p.toInt = 8 * (j : Int)) : ty_b e p = tch e j := by
  unfold tch
  rw [← h, Int32.ofInt_toInt]
section TY
variable {K : Int32 → (Nat → Int32) → (Nat → Nat → Int32) → Prop}
/-- eight less -/
theorem i32_m8 {x : Int32} {j : Nat} (h : x.toInt = 8 * (j : Int)) (hj : j < 100) : ∃ y : Int32, x + (-8) = y ∧ y.toInt = 8 * (j : Int) - 8 :=
  ⟨_, rfl, i32_add (by rw [h, show ((-8 : Int32)).toInt = -8 from by decide]; rfl) (by omega) (by omega)⟩
theorem c_ty91 {e : Int64} {q3 q4 : Int32} : ∀ (j s : Nat) (p5 : Int32) (v : Nat → Int32) (a : Nat → Nat → Int32), j ≤ 8 → p5.toInt = 8 * (j : Int) - 8 → (v 7).toInt = (s : Int) → s + (tl e j).length ≤ 48 → (∀ v1 a1, fr [7] v v1 → fr [0] a a1 → (v1 7).toInt = ((s + (tl e j).length : Nat) : Int) → (∀ i, i < s → a1 0 i = a 0 i) → (∀ k x, (tl e j)[k]? = some x → a1 0 (s + k) = x) → K (v1 7) v1 a1) → mT 1 sM_110 91 [(0, .ref 33), (1, .long e), (3, .int q3), (4, .int q4), (5, .int p5)] [] v a K := by
  intro j
  induction j with
  | zero =>
    intro s p5 v a hj h5 h7 hl hK
    refine r_110_91 ⟨fun _ => hK v a fr.rfl' fr.rfl' h7 (fun _ _ => rfl) (fun k x hx => by cases hx), fun z => absurd z (by omega)⟩
  | succ j ih =>
    intro s p5 v a hj h5 h7 hl hK
    have h5' : p5.toInt = 8 * (j : Int) := by omega
    obtain ⟨y, ey, hy⟩ := i32_m8 h5' (by omega)
    refine r_110_91 ⟨fun z => absurd z (by omega), fun _ => ?_⟩
    rw [tch_of h5', ey]
    refine ⟨fun z => ?_, fun z => ?_⟩
    · rw [tl_s1 z] at hl hK
      rw [List.length_cons] at hl
      refine ⟨by omega, by omega, ?_⟩
      rw [i32_cl h7]
      refine ih (s + 1) y _ _ (by omega) hy ?_ (by omega) (fun v1 a1 o1 o2 l1 l2 l3 => ?_)
      · show (v 7 + 1).toInt = _
        rw [i32_succ (by omega) (by omega)]
        omega
      · refine hK v1 a1 ((fr.rfl'.up (by decide)).trans o1) ((fr.rfl'.up (by decide)).trans o2) (by rw [l1, List.length_cons]; omega) (fun i hi => ?_) (fun k x hx => ?_)
        · rw [l2 i (by omega)]
          show upd (a 0) s _ i = _
          exact ud_ne (by omega)
        · cases k with
          | zero =>
            cases hx
            rw [Nat.add_zero, l2 s (by omega)]
            exact ud_eq
          | succ k =>
            rw [List.getElem?_cons_succ] at hx
            rw [show s + (k + 1) = s + 1 + k from by omega]
            exact l3 k x hx
    · rw [tl_s0 z] at hl hK
      exact ih s y v a (by omega) hy h7 hl hK
theorem c_ty9 {e : Int64} {v : Nat → Int32} {a : Nat → Nat → Int32} {s : Nat} (h7 : (v 7).toInt = (s : Int)) (hs : s ≤ 48) (hK1 : tok e 8 = false → K 0 (va_up v 11 1) a) (hK2 : tok e 8 = true → 48 < s + (tl e 8).length → K 0 (va_up v 11 2) a)
    (hK3 : tok e 8 = true → s + (tl e 8).length ≤ 48 → ∀ v1 a1, fr [7, 11] v v1 → fr [0] a a1 → (v1 11).toInt = 0 → (v1 7).toInt = ((s + (tl e 8).length : Nat) : Int) → (∀ i, i < s → a1 0 i = a 0 i) → (∀ k x, (tl e 8)[k]? = some x → a1 0 (s + k) = x) → K (v1 7) v1 a1) : ∀ (j m : Nat) (p3 p4 p5 : Int32), j ≤ 8 → p5.toInt = 8 * (j : Int) - 8 → p3.toInt = (m : Int) → m + (tl e j).length = (tl e 8).length → ((p4.toInt ≠ 0 ∧ tok e j = true) ↔ tok e 8 = true) → mT 1 sM_110 9 [(0, .ref 33), (1, .long e), (3, .int p3), (4, .int p4), (5, .int p5)] [] v a K := by
  have L8 := tl_len e 8
  intro j
  induction j with
  | zero =>
    intro m p3 p4 p5 hj h5 h3 hm h4
    have em : (v 7 + p3).toInt = ((s + (tl e 8).length : Nat) : Int) := i32_add (by rw [h7, h3]; have : (tl e 0).length = 0 := rfl; omega) (by omega) (by omega)
    refine r_110_9 ⟨fun _ => ⟨fun z => ⟨fun y => absurd z y, fun _ => hK1 ?_⟩, fun z => ⟨fun _ => ⟨fun y => ?_, fun y => hK2 (h4.mp ⟨z, rfl⟩) (by omega)⟩, fun y => absurd y z⟩⟩, fun z => absurd z (by omega)⟩
    · cases hh : tok e 8 with
      | false => rfl
      | true => exact absurd z (h4.mpr hh).1
    · refine c_ty91 8 s 56 _ a (Nat.le_refl _) (by decide) h7 (by omega) (fun v1 a1 o1 o2 l1 l2 l3 => hK3 (h4.mp ⟨z, rfl⟩) (by omega) v1 a1 ((fr.rfl'.up (by decide)).trans (o1.sub (by decide))) o2 ?_ l1 l2 l3)
      rw [o1 11 (by decide)]
      show (0 : Int32).toInt = 0
      decide
  | succ j ih =>
    intro m p3 p4 p5 hj h5 h3 hm h4
    have h5' : p5.toInt = 8 * (j : Int) := by omega
    obtain ⟨y, ey, hy⟩ := i32_m8 h5' (by omega)
    have lj := tl_len e (j + 1)
    refine r_110_9 ⟨fun z => absurd z (by omega), fun _ => ?_⟩
    rw [tch_of h5', ey]
    have good : (tch e j).toInt = 0 ∨ (33 ≤ (tch e j).toInt ∧ (tch e j).toInt ≤ 126) → tok e (j + 1) = tok e j := by
      intro g
      show (decide _ && tok e j) = _
      rw [decide_eq_true g, Bool.true_and]
    refine ⟨fun z => ⟨fun _ => ?_, fun y' => absurd z y'⟩, fun z => ⟨fun y' => absurd y' z, fun _ => ⟨fun g1 g2 => ?_, fun g => ?_⟩⟩⟩
    · rw [tl_s0 z] at hm
      rw [good (Or.inl z)] at h4
      exact ih m p3 p4 y (by omega) hy h3 hm h4
    · rw [tl_s1 z, List.length_cons] at hm
      rw [good (Or.inr ⟨g1, g2⟩)] at h4
      exact ih (m + 1) (p3 + 1) p4 y (by omega) hy (by rw [i32_succ (by omega) (by omega)]; omega) (by omega) h4
    · rw [tl_s1 z, List.length_cons] at hm
      refine ih (m + 1) (p3 + 1) 0 y (by omega) hy (by rw [i32_succ (by omega) (by omega)]; omega) (by omega) ⟨fun q => absurd (by decide) q.1, fun q => ?_⟩
      have q2 := (h4.mpr q).2
      have : decide ((tch e j).toInt = 0 ∨ (33 ≤ (tch e j).toInt ∧ (tch e j).toInt ≤ 126)) = false := decide_eq_false (by omega)
      have q3 : (decide ((tch e j).toInt = 0 ∨ (33 ≤ (tch e j).toInt ∧ (tch e j).toInt ≤ 126)) && tok e j) = true := q2
      rw [this] at q3
      cases q3
/-- type(eight) -/
theorem c_type {e : Int64} {v : Nat → Int32} {a : Nat → Nat → Int32} {s : Nat} (h7 : (v 7).toInt = (s : Int)) (hs : s ≤ 48) (hK1 : tok e 8 = false → K 0 (va_up v 11 1) a) (hK2 : tok e 8 = true → 48 < s + (tl e 8).length → K 0 (va_up v 11 2) a)
    (hK3 : tok e 8 = true → s + (tl e 8).length ≤ 48 → ∀ v1 a1, fr [7, 11] v v1 → fr [0] a a1 → (v1 11).toInt = 0 → (v1 7).toInt = ((s + (tl e 8).length : Nat) : Int) → (∀ i, i < s → a1 0 i = a 0 i) → (∀ k x, (tl e 8)[k]? = some x → a1 0 (s + k) = x) → K (v1 7) v1 a1) : mT 1 sM_110 0 [(0, .ref 33), (1, .long e)] [] v a K :=
  r_110_0 (c_ty9 h7 hs hK1 hK2 hK3 8 0 0 1 56 (Nat.le_refl _) (by decide) (by decide) (by omega) ⟨fun q => q.2, fun q => ⟨by decide, q⟩⟩)
/-- add: the text is copied behind the CLAUSES -/
theorem c_add44 {p1 : Int32} {C n : Nat} (hC : C < 12) (hn : n ≤ 48) {v : Nat → Int32} (h8 : (v 8).toInt = (C : Int)) (h7 : (v 7).toInt = (n : Int)) {a0 : Nat → Nat → Int32} (hK : ∀ a1, fr [1, 2] a0 a1 → (∀ y, (y < C * 48 ∨ C * 48 + 48 ≤ y) → a1 1 y = a0 1 y) → (∀ i, i < n → a1 1 (C * 48 + i) = a0 0 i) → a1 2 = upd (a0 2) C (v 7) → ((p1.toInt ≠ 0 → K (v 8 + 1) (va_up (va_up (va_up v 7 0) 11 0) 8 (v 8 + 1)) a1) ∧ (p1.toInt = 0 → K 0 (va_up (va_up v 7 0) 11 1) a1))) : ∀ (k j : Nat) (p2 : Int32) (a : Nat → Nat → Int32), p2.toInt = (j : Int) → j + k = n → fr [1] a0 a → (∀ y, (y < C * 48 ∨ C * 48 + 48 ≤ y) → a 1 y = a0 1 y) → (∀ i, i < j → a 1 (C * 48 + i) = a0 0 i) → mT 5 sM_114 44 [(0, .ref 33), (1, .int p1), (2, .int p2)] [] v a K := by
  intro k
  induction k with
  | zero =>
    intro j p2 a h2 hj f1 f2 f3
    refine r_114_44 ⟨fun _ => ⟨by omega, by omega, ?_⟩, fun z => absurd z (by omega)⟩
    rw [i32_cl h8]
    obtain ⟨k1, k2⟩ := hK (va_up a 2 (upd (a 2) C (v 7))) (fun y hy => (va_ne (nin hy (by decide))).trans (f1 y (fun q => hy (by rw [List.mem_singleton] at q; rw [q]; decide)))) (fun y hy => f2 y hy) (fun i hi => f3 i (by omega)) (by show upd (a 2) C (v 7) = _; rw [f1 2 (by decide)])
    exact ⟨fun z => ⟨fun y => absurd z y, fun _ => k2 z⟩, fun z => ⟨fun _ => k1 z, fun y => absurd y z⟩⟩
  | succ k ih =>
    intro j p2 a h2 hj f1 f2 f3
    have t48 : ((48 : Int32)).toInt = 48 := by decide
    have e1 : (v 8 * 48 + p2).toInt = ((C * 48 + j : Nat) : Int) := i32_add (by rw [i32_mul (s := (C : Int) * 48) (by rw [h8, t48]) (by omega) (by omega)]; omega) (by omega) (by omega)
    refine r_114_44 ⟨fun z => absurd z (by omega), fun _ => ⟨by omega, by omega, by omega, by omega, ?_⟩⟩
    rw [i32_cl e1, i32_cl h2]
    refine ih (j + 1) (p2 + 1) _ (by rw [i32_succ (by omega) (by omega)]; omega) (by omega) (f1.up (by decide)) (fun y hy => ?_) (fun i hi => ?_)
    · show upd (a 1) (C * 48 + j) _ y = _
      rw [ud_ne (by omega)]
      exact f2 y hy
    · show upd (a 1) (C * 48 + j) (a 0 j) (C * 48 + i) = _
      by_cases e : i = j
      · subst e
        rw [ud_eq, f1 0 (by decide)]
      · rw [ud_ne (by omega)]
        exact f3 i (by omega)
/-- only the text, THE PLACE, the CLAUSES may have changed -/
theorem qI.keep {v v1 : Nat → Int32} {a a1 : Nat → Nat → Int32} (h : qI v a) (o1 : fr [7, 8, 9, 10, 11] v v1) (o2 : fr [0, 1, 2, 4] a a1) : qI v1 a1 := by
  obtain ⟨c, w, k1, k2, k3, k4, k5, k6, k7, k8, k9⟩ := h
  refine ⟨c, w, k1.of (o2 15 (by decide)) (o2 16 (by decide)) (o2 17 (by decide)), by rw [o1 37 (by decide)]; exact k2, by rw [o1 38 (by decide)]; exact k3, by rw [o1 39 (by decide)]; exact k4, by rw [o1 39 (by decide)]; exact k5, by rw [o1 39 (by decide)]; exact k6, by intro g hg; rw [o2 25 (by decide)]; exact k7 g hg, by rw [o2 6 (by decide)]; exact k8, ?_⟩
  rw [o1 42 (by decide)]
  intro z
  refine (k9 z).of (Nat.le_refl _) (Nat.le_refl _) (o1 40 (by decide)) (fun j hj => o2 j (fun y => ?_))
  have y' : j = 0 ∨ j = 1 ∨ j = 2 ∨ j = 4 := by simpa using y
  omega
theorem rO.frV {v v1 : Nat → Int32} {a a1 : Nat → Nat → Int32} (h : rO v a v1 a1) : fr [10] v v1 ∧ fr [4] a a1 := ⟨fun j hj => h.1 j (nin hj (by decide)), fun j hj => h.2 j (nin hj (by decide))⟩
/-- add() -/
theorem c_add {v : Nat → Int32} {a : Nat → Nat → Int32} {C n : Nat} (hM : mI v a) (h8 : (v 8).toInt = (C : Int)) (h7 : (v 7).toInt = (n : Int)) (hK12 : C = 12 → ∀ v1 a1, mI v1 a1 → (v1 7).toInt = 0 → (v1 8).toInt = (C : Int) → (v1 11).toInt = 2 → K 0 v1 a1) (hKT : C ≠ 12 → gCl (a 0) n = true → ∀ v1 a1 r, mI v1 a1 → (v1 7).toInt = 0 → (v1 8).toInt = ((C + 1 : Nat) : Int) → (v1 11).toInt = 0 → r.toInt = ((C + 1 : Nat) : Int) → K r v1 a1) (hKF : C ≠ 12 → gCl (a 0) n = false → ∀ v1 a1, mI v1 a1 → (v1 7).toInt = 0 → (v1 8).toInt = (C : Int) → (v1 11).toInt = 1 → K 0 v1 a1) : mT 5 sM_114 0 [(0, .ref 33)] [] v a K := by
  obtain ⟨m1, ⟨C', hC, h8', hct⟩, m3⟩ := id hM
  have eC : C = C' := by omega
  subst eC
  refine r_114_0 ⟨fun hne => ?_, fun he => ?_⟩
  · have hS : rS (va_up v 10 0) a (a 0) n 0 := ⟨h7, by show (0 : Int32).toInt = _; decide, by omega, by omega, rfl⟩
    refine c_readClause hS (fun v2 a2 o => ?_)
    obtain ⟨oV, oA⟩ := o.frV
    have oV' : fr [10] v v2 := (fr.rfl'.up (by decide)).trans oV
    have h72 : (v2 7).toInt = (n : Int) := by rw [oV' 7 (by decide)]; exact h7
    have h82 : (v2 8).toInt = (C : Int) := by rw [oV' 8 (by decide)]; exact h8
    have fin : ∀ (v3 : Nat → Int32) (p1 : Int32), fr [9, 10] v v3 → (p1.toInt ≠ 0 ↔ gCl (a 0) n = true) → mT 5 sM_114 44 [(0, .ref 33), (1, .int p1), (2, .int 0)] [] v3 a2 K := by
      intro v3 p1 o3 hp1
      have h73 : (v3 7).toInt = (n : Int) := by rw [o3 7 (by decide)]; exact h7
      have h83 : (v3 8).toInt = (C : Int) := by rw [o3 8 (by decide)]; exact h8
      have e83 : (v3 8 + 1).toInt = ((C + 1 : Nat) : Int) := by
        rw [i32_succ (by omega) (by omega)]
        omega
      refine c_add44 (by omega) (by omega) h83 h73 (fun a3 f1 f2 f3 f4 => ?_) n 0 0 a2 (by decide) (by omega) fr.rfl' (fun _ _ => rfl) (fun i hi => absurd hi (by omega))
      have oA3 : fr [0, 1, 2, 4] a a3 := (oA.sub (by decide)).trans (f1.sub (by decide))
      have ctC : ct a3 C := by
        intro ci hci
        obtain ⟨T, n', q1, q2, q3, q4⟩ := hct ci hci
        refine ⟨T, n', q1, ?_, fun i hi => ?_, q4⟩
        · rw [f4, ud_ne (by omega), oA 2 (by decide)]
          exact q2
        · rw [f2 _ (by omega), oA 1 (by decide)]
          exact q3 i hi
      refine ⟨fun z => ?_, fun z => ?_⟩
      · refine hKT (by omega) (hp1.mp z) _ a3 _ ⟨⟨by show 0 ≤ (0 : Int32).toInt; decide, by show (0 : Int32).toInt ≤ 48; decide⟩, ⟨C + 1, by omega, e83, ?_⟩, ?_⟩ (by show (0 : Int32).toInt = 0; decide) e83 (by show (0 : Int32).toInt = 0; decide) e83
        · intro ci hci
          by_cases e : ci = C
          · subst e
            refine ⟨a 0, n, by omega, ?_, fun i hi => ?_, hp1.mp z⟩
            · rw [f4, ud_eq]
              exact h73
            · rw [f3 i hi, oA 0 (by decide)]
          · exact ctC ci (by omega)
        · show (v3 42).toInt = 0 ∨ _
          rw [o3 42 (by decide)]
          exact m3.imp id (fun q => q.keep ((((o3.sub (by decide)).up (by decide)).up (by decide)).up (by decide)) oA3)
      · refine hKF (by omega) ?_ _ a3 ⟨⟨by show 0 ≤ (0 : Int32).toInt; decide, by show (0 : Int32).toInt ≤ 48; decide⟩, ⟨C, by omega, h83, ctC⟩, ?_⟩ (by show (0 : Int32).toInt = 0; decide) h83 (by show (1 : Int32).toInt = 1; decide)
        · cases hh : gCl (a 0) n with
          | false => rfl
          | true => exact absurd z (hp1.mpr hh)
        · show (v3 42).toInt = 0 ∨ _
          rw [o3 42 (by decide)]
          exact m3.imp id (fun q => q.keep (((o3.sub (by decide)).up (by decide)).up (by decide)) oA3)
    cases hh : gCl (a 0) n with
    | true =>
      exact ⟨fun _ => fin v2 _ (oV'.sub (by decide)) ⟨fun _ => hh, fun _ => by decide⟩, fun z => absurd z (by decide)⟩
    | false =>
      exact ⟨fun z => absurd (by decide) z, fun _ => fin _ _ ((oV'.sub (by decide)).up (by decide)) ⟨fun z => absurd (by decide) z, fun z => by rw [hh] at z; cases z⟩⟩
  · refine hK12 (by omega) _ a ⟨⟨by show 0 ≤ (0 : Int32).toInt; decide, by show (0 : Int32).toInt ≤ 48; decide⟩, ⟨C, by omega, h8, hct⟩, ?_⟩ (by show (0 : Int32).toInt = 0; decide) h8 (by show (2 : Int32).toInt = 2; decide)
    exact m3.imp id (fun q => q.keep ((fr.rfl'.up (by decide)).up (by decide)) fr.rfl')
end TY
