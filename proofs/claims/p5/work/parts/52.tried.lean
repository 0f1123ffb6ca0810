/-! match by the tree of the head; guard; tried: a CLAUSE is tried on a CALL -/
section TR
variable {T : Nat → Int32} {b n c w : Nat} {K : Int32 → (Nat → Int32) → (Nat → Nat → Int32) → Prop}
def ySub (T : Nat → Int32) (b n c w d : Nat) : Prop := ∀ (k p q : Nat) (p2 t : Int32) (v : Nat → Int32) (a : Nat → Nat → Int32) (K : Int32 → (Nat → Int32) → (Nat → Nat → Int32) → Prop), gD T n d p q → p2.toInt = ((k + 1 : Nat) : Int) → k + 1 + d ≤ 5 → tV v a T b n p → yS v a c w → rf c w t →
  (∀ v1 a1, tV v1 a1 T b n q → yS v1 a1 c w → yO v a c v1 a1 → (∀ j, j ≤ k + 1 → a1 33 j = a 33 j ∧ a1 34 j = a 34 j) → mT 4 sM_139 101 [(0, .ref 33), (2, .int p2)] [] v1 a1 K) →
  (∀ r v1 a1, r.toInt ≠ 1 → (r.toInt < 0 → rf c w r) → yS v1 a1 c w → yO v a c v1 a1 → K r v1 a1) → mT 4 sM_139 4 [(0, .ref 33), (2, .int p2), (3, .int t)] [] v a K
theorem c_yargs {d : Nat} (ih : ySub T b n c w d) (hc : c < 26000) {k : Nat} {p2 : Int32} (hp2 : p2.toInt = ((k + 1 : Nat) : Int)) (hkd : k + 1 + d ≤ 5) {X : Nat} (hX : X < c) : ∀ (j p q i : Nat) (v : Nat → Int32) (a : Nat → Nat → Int32), gN T n (gD T n d) j p q → tV v a T b n p → yS v a c w → (a 33 (k + 1)).toInt = (X : Int) → (a 34 (k + 1)).toInt = (i : Int) → (a 15 X).toInt = ((i + j : Nat) : Int) →
    (∀ v1 a1, tV v1 a1 T b n q → yS v1 a1 c w → yO v a c v1 a1 → (∀ j, j ≤ k → a1 33 j = a 33 j ∧ a1 34 j = a 34 j) → mT 4 sM_139 101 [(0, .ref 33), (2, .int (p2 + (-1)))] [] v1 a1 K) →
    (∀ r v1 a1, r.toInt ≠ 1 → (r.toInt < 0 → rf c w r) → yS v1 a1 c w → yO v a c v1 a1 → K r v1 a1) → mT 4 sM_139 160 [(0, .ref 33), (2, .int p2)] [] v a K := by
  intro j
  induction j with
  | zero => intro p q i v a h; exact h.elim
  | succ j ihj =>
    intro p q i v a hN tv hs h33 h34 h15 hT hF
    obtain ⟨q1, hD, hcase⟩ := hN
    obtain ⟨l, hl, hw⟩ := gD_gW _ _ _ hD
    have hw1 := hw.1
    have hw2 := hw.2.1
    obtain ⟨g1, g2, g3⟩ := hs.1.1 X hX
    have t3 : ((3 : Int32)).toInt = 3 := by decide
    have ei : (a 33 (k + 1) * 3 + a 34 (k + 1)).toInt = ((X * 3 + i : Nat) : Int) := i32_add (by rw [i32_mul (s := (X : Int) * 3) (by rw [h33, t3]) (by omega) (by omega)]; omega) (by omega) (by omega)
    refine r_139_160 ⟨by omega, by omega, by omega, by omega, ?_⟩
    rw [i32_cl hp2, i32_cl ei, ei]
    refine ⟨by omega, by omega, ih k p q1 p2 _ v a K hD hp2 hkd tv hs (g3 i (by omega)) (fun v1 a1 tv1 hs1 ho hfr => ?_) hF⟩
    have ea := tv1.at
    have e15 : a1 15 X = a 15 X := (ho.2.2.1 X hX).2
    rcases hcase with ⟨hj0, hcc, rfl⟩ | ⟨hj0, hcc, hn⟩
    · have hq1 : q1 < n := gC_lt (T := T) (by omega)
      refine r_139_101 ⟨fun z => absurd z (by omega), fun _ => ⟨tv1.b0, tv1.b6, fun z => absurd (ea.trans hcc) z, fun _ => ?_⟩⟩
      exact hT _ a1 (tv1.nx (by omega)) hs1 (ho.trans yO.src) (fun j hj => hfr j (by omega))
    · have hq1 : q1 < n := gC_lt (T := T) (by omega)
      refine r_139_101 ⟨fun z => absurd z (by omega), fun _ => ⟨tv1.b0, tv1.b6, fun _ => ⟨fun _ => ⟨by omega, by omega, by omega, by omega, ?_⟩, fun z => absurd z (by omega)⟩, fun z => absurd (ea.symm.trans z) (by omega)⟩⟩
      rw [i32_cl hp2]
      have h34' : (a1 34 (k + 1)).toInt = (i : Int) := by rw [(hfr (k + 1) (by omega)).2]; exact h34
      have oo : yO v a c (va_up v1 12 (v1 12 + 1)) (va_up a1 34 (upd (a1 34) (k + 1) (a1 34 (k + 1) + 1))) := ho.trans ⟨fun _ h1 _ _ _ => va_ne h1, fun _ _ _ _ _ _ _ _ _ h9 => va_ne h9, ⟨fun _ _ => ⟨rfl, rfl⟩, fun _ _ => rfl⟩⟩
      have tv2 := tv1.nx (by omega)
      refine ihj (q1 + 1) q (i + 1) _ _ hn ⟨tv2.1, tv2.2.1, tv2.2.2.1, tv2.2.2.2.1, tv2.2.2.2.2⟩ ⟨hs1.1.of rfl rfl rfl, hs1.2.1, hs1.2.2⟩ ?_ ?_ ?_ (fun v2 a2 tv3 hs3 ho3 hfr3 => ?_) (fun r v2 a2 z1 z2 hs3 ho3 => hF r v2 a2 z1 z2 hs3 (oo.trans ho3))
      · show (a1 33 (k + 1)).toInt = _
        rw [(hfr (k + 1) (by omega)).1]
        exact h33
      · show (upd (a1 34) (k + 1) (a1 34 (k + 1) + 1) (k + 1)).toInt = _
        rw [ud_eq, i32_succ (by omega) (by omega)]
        omega
      · show (a1 15 X).toInt = _
        rw [e15, h15]
        omega
      · refine hT v2 a2 tv3 hs3 (oo.trans ho3) (fun j hj => ?_)
        obtain ⟨f1, f2⟩ := hfr3 j hj
        refine ⟨f1.trans (hfr j (by omega)).1, f2.trans ?_⟩
        show upd (a1 34) (k + 1) _ j = _
        rw [ud_ne (by omega)]
        exact (hfr j (by omega)).2
theorem c_ysub (hc : c < 26000) (hw : w ≤ 12000) : ∀ d, ySub T b n c w d := by
  intro d
  induction d with
  | zero => intro k p q p2 t v a K h; exact h.elim
  | succ d ih =>
    intro k p q p2 t v a K hD hp2 hkd tv hs ht hT hF
    have hkind : (97 ≤ gC T n p ∧ gC T n p ≤ 122) ∨ isU T n p ∨ (48 ≤ gC T n p ∧ gC T n p ≤ 57) := by
      rcases hD with ⟨h, -⟩ | ⟨h, -⟩ | ⟨h, -⟩ | ⟨h, -⟩ | ⟨h, -⟩
      · exact Or.inl h
      · exact Or.inr (Or.inl h)
      · exact Or.inr (Or.inr h)
      · exact Or.inr (Or.inr h)
      · exact Or.inl h
    obtain ⟨l, hl, hww⟩ := gD_gW _ _ _ hD
    have hw1 := hww.1
    have hw2 := hww.2.1
    -- how many ARGUMENTS, and how it goes on behind matchOne
    have go : ∃ kk, ((97 ≤ gC T n p ∧ gC T n p ≤ 122) → arI T n p kk) ∧ ∀ (p4 : Int32) (v1 : Nat → Int32) (a1 : Nat → Nat → Int32), (p4.toInt = 0 ↔ ¬ (97 ≤ gC T n p ∧ gC T n p ≤ 122)) → yS v1 a1 c w → yO v a c v1 a1 → a1 33 = a 33 → a1 34 = a 34 → tV v1 a1 T b n (lq T n p) → ((97 ≤ gC T n p ∧ gC T n p ≤ 122) → ∃ X : Nat, (vf (a 17) w t).toInt = (X : Int) ∧ X < c ∧ (a 15 X).toInt = (kk : Int)) → mT 4 sM_139 45 [(0, .ref 33), (2, .int p2), (3, .int t), (4, .int p4)] [] v1 a1 K := by
      have leaf : ∀ (v1 : Nat → Int32) (a1 : Nat → Nat → Int32), q = lq T n p → yS v1 a1 c w → yO v a c v1 a1 → a1 33 = a 33 → a1 34 = a 34 → tV v1 a1 T b n (lq T n p) → mT 4 sM_139 101 [(0, .ref 33), (2, .int p2)] [] v1 a1 K := by
        intro v1 a1 e hs1 ho e33 e34 tv1
        subst e
        exact hT v1 a1 tv1 hs1 ho (fun j _ => by rw [e33, e34]; exact ⟨rfl, rfl⟩)
      rcases hD with ⟨h1, h2, h3⟩ | ⟨h1, h3⟩ | ⟨h1, h2, h3⟩ | ⟨h1, h2, h3⟩ | ⟨h1, h2, j, hj, hN⟩
      · have eq : lq T n p = p + 1 := if_neg (fun z => by have := z.1.2; omega)
        refine ⟨0, fun _ => Or.inl ⟨h2, rfl⟩, fun p4 v1 a1 h4 hs1 ho e33 e34 tv1 _ => ?_⟩
        have ea := tv1.at
        rw [eq] at ea
        exact r_139_45 ⟨fun _ => ⟨fun z => absurd h1 (h4.mp z), fun _ => ⟨tv1.b0, tv1.b6, fun _ => leaf v1 a1 (by omega) hs1 ho e33 e34 tv1, fun z => absurd (ea.symm.trans z) h2⟩⟩, fun z => absurd z (by omega)⟩
      · have eq : lq T n p = p + 1 := if_neg (fun z => by have := z.1.2; have := h1.1; omega)
        have nl : ¬ (97 ≤ gC T n p ∧ gC T n p ≤ 122) := fun z => by have := h1.2; have := z.1; omega
        refine ⟨0, fun z => absurd z nl, fun p4 v1 a1 h4 hs1 ho e33 e34 tv1 _ => ?_⟩
        exact r_139_45 ⟨fun _ => ⟨fun _ => leaf v1 a1 (by omega) hs1 ho e33 e34 tv1, fun z => absurd (h4.mpr nl) z⟩, fun z => absurd z (by omega)⟩
      · have eq : lq T n p = p + 1 := if_neg (fun z => h2 z.2)
        have nl : ¬ (97 ≤ gC T n p ∧ gC T n p ≤ 122) := fun z => by have := h1.2; have := z.1; omega
        refine ⟨0, fun z => absurd z nl, fun p4 v1 a1 h4 hs1 ho e33 e34 tv1 _ => ?_⟩
        exact r_139_45 ⟨fun _ => ⟨fun _ => leaf v1 a1 (by omega) hs1 ho e33 e34 tv1, fun z => absurd (h4.mpr nl) z⟩, fun z => absurd z (by omega)⟩
      · have eq : lq T n p = p + 2 := if_pos ⟨h1, h2⟩
        have nl : ¬ (97 ≤ gC T n p ∧ gC T n p ≤ 122) := fun z => by have := h1.2; have := z.1; omega
        refine ⟨0, fun z => absurd z nl, fun p4 v1 a1 h4 hs1 ho e33 e34 tv1 _ => ?_⟩
        exact r_139_45 ⟨fun _ => ⟨fun _ => leaf v1 a1 (by omega) hs1 ho e33 e34 tv1, fun z => absurd (h4.mpr nl) z⟩, fun z => absurd z (by omega)⟩
      · have eq : lq T n p = p + 1 := if_neg (fun z => by have := z.1.2; omega)
        obtain ⟨l2, hl2, hv2⟩ := gN_gV (gD_gW d) _ _ _ hN
        have hv21 := hv2.1
        have hv22 := hv2.2.1
        refine ⟨j, fun _ => Or.inr ⟨h2, l2, hv2⟩, fun p4 v1 a1 h4 hs1 ho e33 e34 tv1 hX => ?_⟩
        obtain ⟨X, eX, hXc, h15⟩ := hX h1
        have ea := tv1.at
        rw [eq] at ea tv1
        have e17 : a1 17 = a 17 := ho.2.1 17 (by decide) (by decide) (by decide) (by decide) (by decide) (by decide) (by decide) (by decide) (by decide)
        refine r_139_45 ⟨fun _ => ⟨fun z => absurd h1 (h4.mp z), fun _ => ⟨tv1.b0, tv1.b6, fun z => absurd (ea.trans h2) z, fun _ => ?_⟩⟩, fun z => absurd z (by omega)⟩
        refine c_value hs1.1 hw ht ?_
        rw [e17]
        have e2 : (p2 + 1).toInt = ((k + 1 + 1 : Nat) : Int) := by
          rw [i32_succ (by omega) (by omega)]
          omega
        refine ⟨by omega, by omega, by omega, by omega, ?_⟩
        rw [i32_cl e2]
        have oo : yO v a c (va_up v1 12 (v1 12 + 1)) (va_up (va_up a1 33 (upd (a1 33) (k + 1 + 1) (vf (a 17) w t))) 34 (upd (a1 34) (k + 1 + 1) 0)) := ho.trans ⟨fun _ g1 _ _ _ => va_ne g1, fun _ _ _ _ _ _ _ _ g8 g9 => (va_ne g9).trans (va_ne g8), ⟨fun _ _ => ⟨rfl, rfl⟩, fun _ _ => rfl⟩⟩
        have tv2 := tv1.nx (by omega)
        refine c_yargs ih hc e2 (by omega) hXc j (p + 2) q 0 _ _ hN ⟨tv2.1, tv2.2.1, tv2.2.2.1, tv2.2.2.2.1, tv2.2.2.2.2⟩ ⟨hs1.1.of rfl rfl rfl, hs1.2.1, hs1.2.2⟩ ?_ ?_ ?_ (fun v2 a2 tv3 hs3 ho3 hfr3 => ?_) (fun r v2 a2 z1 z2 hs3 ho3 => hF r v2 a2 z1 z2 hs3 (oo.trans ho3))
        · show (upd (a1 33) (k + 1 + 1) (vf (a 17) w t) (k + 1 + 1)).toInt = _
          rw [ud_eq]
          exact eX
        · show (upd (a1 34) (k + 1 + 1) 0 (k + 1 + 1)).toInt = _
          rw [ud_eq]
          rfl
        · show (a1 15 X).toInt = _
          rw [(ho.2.2.1 X hXc).2, h15, Nat.zero_add]
        · rw [i32_pm (by omega) (by omega)]
          refine hT v2 a2 tv3 hs3 (oo.trans ho3) (fun i hi => ?_)
          obtain ⟨f1, f2⟩ := hfr3 i hi
          refine ⟨f1.trans ?_, f2.trans ?_⟩
          · show upd (a1 33) (k + 1 + 1) _ i = _
            rw [ud_ne (by omega), e33]
          · show upd (a1 34) (k + 1 + 1) _ i = _
            rw [ud_ne (by omega), e34]
    obtain ⟨kk, har, hgo⟩ := go
    have ea := tv.at
    refine r_139_4 ⟨tv.b0, tv.b6, fun l1 l2 => ⟨fun _ => ?_, fun z => absurd z (by omega)⟩, fun nl => ⟨fun _ => ?_, fun z => absurd z (by omega)⟩⟩
    · rw [ea] at l1 l2
      exact c_matchOne (k := kk) tv hkind hs hc hw ht har (fun r v1 a1 q1 q2 q3 q4 q5 q6 => ⟨fun z => hgo 1 v1 a1 ⟨fun y => absurd y (by decide), fun y => absurd ⟨l1, l2⟩ y⟩ q1 q2 q3 q4 (q6 z).1 (q6 z).2, fun z => hF r v1 a1 z q5 q1 q2⟩)
    · rw [ea] at nl
      exact c_matchOne (k := kk) tv hkind hs hc hw ht har (fun r v1 a1 q1 q2 q3 q4 q5 q6 => ⟨fun z => hgo 0 v1 a1 ⟨fun _ y => by omega, fun _ => by decide⟩ q1 q2 q3 q4 (q6 z).1 (q6 z).2, fun z => hF r v1 a1 z q5 q1 q2⟩)
/-- match(call): the head from 0 to q -/
theorem c_match (hc : c < 26000) (hw : w ≤ 12000) {v : Nat → Int32} {a : Nat → Nat → Int32} {q X kk : Nat} {call : Int32} (hD : gD T n 5 0 q) (hlow : 97 ≤ gC T n 0 ∧ gC T n 0 ≤ 122) (tv : tV v a T b n 0) (hs : yS v a c w) (hX : call.toInt = (X : Int)) (hXc : X < c) (h15 : (a 15 X).toInt = (kk : Int)) (har : arI T n 0 kk)
    (hK : ∀ r v1 a1, yS v1 a1 c w → yO v a c v1 a1 → (r.toInt < 0 → rf c w r) → (r.toInt = 1 → tV v1 a1 T b n q) → K r v1 a1) : mT 4 sM_139 0 [(0, .ref 33), (1, .int call)] [] v a K := by
  have ea := tv.at
  have hn0 : 0 < n := gC_lt (T := T) (by omega)
  have tv1 := tv.nx (by omega)
  have ea2 := tv.at2 (x := v 12 + 1)
  have n2 : ∀ P : Prop, (1 : Int32).toInt < 0 → P := fun P z => absurd z (by decide)
  have fin : ∀ (v1 : Nat → Int32) (a1 : Nat → Nat → Int32) (z : Int32), z.toInt = 0 → tV v1 a1 T b n q → yS v1 a1 c w → yO v a c v1 a1 → mT 4 sM_139 101 [(0, .ref 33), (2, .int z)] [] v1 a1 K := by
    intro v1 a1 z hz t1 s1 o1
    exact r_139_101 ⟨fun _ => ⟨fun y => absurd hz y, fun _ => hK 1 v1 a1 s1 o1 (n2 _) (fun _ => t1)⟩, fun y => absurd y (by omega)⟩
  refine r_139_0 (r_139_4 ⟨tv.b0, tv.b6, fun _ _ => ⟨fun z => absurd (by decide) z, fun _ => ?_⟩, fun z => absurd z (by rw [ea]; omega)⟩)
  have e1 := tv.e1
  refine r_139_45 ⟨fun z => absurd (by decide) z, fun _ => ⟨fun z => absurd z (by decide), fun _ => ⟨by omega, tv.b6, fun z => ?_, fun z => ?_⟩⟩⟩
  · rw [ea2] at z
    have hq : q = 1 := by
      rcases hD with ⟨h1, h2, h3⟩ | ⟨h1, h3⟩ | ⟨h1, h2, h3⟩ | ⟨h1, h2, h3⟩ | ⟨h1, h2, j, hj, hN⟩
      · omega
      · omega
      · omega
      · omega
      · exact absurd h2 z
    subst hq
    exact fin _ a 0 (by decide) tv1 hs yO.src
  · rw [ea2] at z
    have hc1 : rf c w call := ⟨by omega, by omega⟩
    refine c_value (c := c) (w := w) hs.1 hw hc1 ?_
    rw [vf_pos (by omega)]
    refine ⟨by decide, by decide, by decide, by decide, ?_⟩
    rcases hD with ⟨h1, h2, h3⟩ | ⟨h1, h3⟩ | ⟨h1, h2, h3⟩ | ⟨h1, h2, h3⟩ | ⟨h1, h2, j, hj, hN⟩
    · exact absurd z h2
    · omega
    · omega
    · omega
    · obtain ⟨l2, hl2, hv2⟩ := gN_gV (gD_gW 4) _ _ _ hN
      have hv21 := hv2.1
      have hv22 := hv2.2.1
      have hjk : j = kk := by
        rcases har with ⟨y, -⟩ | ⟨-, l3, hv3⟩
        · exact absurd z y
        · -- both count the same commas up to the same bracket
          obtain ⟨a1, a2, a3, a4, a5⟩ := hv2
          obtain ⟨b1, b2, b3, b4, b5⟩ := hv3
          have : l2 = l3 := by
            by_cases c1 : l2 < l3
            · have := (b5 l2 c1).1
              omega
            · by_cases c2 : l3 < l2
              · have := (a5 l3 c2).1
                omega
              · omega
          subst this
          omega
      subst hjk
      have tv2 := tv1.nx (by omega)
      have z1 : ((0 : Int32) + 1).toNatClampNeg = 0 + 1 := by decide
      rw [z1]
      refine c_yargs (c_ysub hc hw 4) hc (k := 0) (p2 := 0 + 1) (by decide) (by decide) hXc j (0 + 2) q 0 _ _ hN ⟨tv2.1, tv2.2.1, tv2.2.2.1, tv2.2.2.2.1, tv2.2.2.2.2⟩ ⟨hs.1.of rfl rfl rfl, hs.2.1, hs.2.2⟩ ?_ ?_ ?_ (fun v2 a2 tv3 hs3 ho3 hfr3 => ?_) (fun r v2 a2 z1 z2 hs3 ho3 => ?_)
      · show (upd (a 33) (0 + 1) call (0 + 1)).toInt = _
        rw [ud_eq]
        exact hX
      · show (upd (a 34) (0 + 1) 0 (0 + 1)).toInt = _
        rw [ud_eq]
        rfl
      · show (a 15 X).toInt = _
        rw [h15, Nat.zero_add]
      · exact fin v2 a2 _ (by decide) tv3 hs3 (yO.trans ⟨fun _ g1 _ _ _ => (va_ne g1).trans (va_ne g1), fun _ _ _ _ _ _ _ _ g8 g9 => (va_ne g9).trans (va_ne g8), ⟨fun _ _ => ⟨rfl, rfl⟩, fun _ _ => rfl⟩⟩ ho3)
      · exact hK r v2 a2 hs3 (yO.trans ⟨fun _ g1 _ _ _ => (va_ne g1).trans (va_ne g1), fun _ _ _ _ _ _ _ _ g8 g9 => (va_ne g9).trans (va_ne g8), ⟨fun _ _ => ⟨rfl, rfl⟩, fun _ _ => rfl⟩⟩ ho3) z2 (fun y => absurd y z1)
end TR
