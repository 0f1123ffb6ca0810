/-! guard; tried: a CLAUSE is tried on a CALL -/
section GU
variable {T : Nat → Int32} {b n c w : Nat} {v v1 : Nat → Int32} {a a1 : Nat → Nat → Int32} {K : Int32 → (Nat → Int32) → (Nat → Nat → Int32) → Prop}
theorem rf_neg {c1 : Nat} {r : Int32} (h : rf c1 w r) (hn : r.toInt < 0) : rf c w r := ⟨h.1, by omega⟩
theorem yS.reset (hs : yS v a c w) (hu : cU a a1 c) (e5 : a1 5 = a 5) (e17 : a1 17 = a 17) : yS (va_up v1 37 (v 37)) a1 c w :=
  ⟨hs.1.low hu e17, hs.2.1, hs.2.2.mono (Nat.le_refl _) (Nat.le_refl _) e5⟩
/-- guard() at p: two TERMS and a sign between them -/
theorem c_guard {p q q2 : Nat} (hD : gD T n 5 p q) (hop : gC T n q = 60 ∨ gC T n q = 61 ∨ gC T n q = 126) (hD2 : gD T n 5 (q + 1) q2) (tv : tV v a T b n p) (hs : yS v a c w) (hr : c + q2 ≤ p + 26000) (hw : w ≤ 12000)
    (hK : ∀ r v1 a1, yS (va_up v1 37 (v 37)) a1 c w → yO v a c (va_up v1 37 (v 37)) a1 → (r.toInt < 0 → rf c w r) → (r.toInt = 1 → tV v1 a1 T b n q2) → K r v1 a1) : mT 4 sM_146 0 [(0, .ref 33)] [] v a K := by
  obtain ⟨l, hl, hw1⟩ := gD_gW _ _ _ hD
  obtain ⟨l2, hl2, hw2⟩ := gD_gW _ _ _ hD2
  have wq : gW T n q 1 := gW_one (by omega) (by omega) (by omega) (by omega) (by omega)
  have wall : gW T n p (l + 1 + l2) := by
    subst hl
    refine gW_app (gW_app hw1 wq) ?_
    rw [← Nat.add_assoc]
    exact hw2
  have x1 := hw1.1
  have x2 := hw2.1
  have x3 := wall.2.1
  have n0 : ∀ P : Prop, (0 : Int32).toInt = 1 → P := fun P z => absurd z (by decide)
  have n1 : ∀ P : Prop, (0 : Int32).toInt < 0 → P := fun P z => absurd z (by decide)
  have n2 : ∀ P : Prop, (1 : Int32).toInt < 0 → P := fun P z => absurd z (by decide)
  refine r_146_0 (c_unmet tv x3 (fun i hi => ⟨(wall.2.2.2 i hi).1, (wall.2.2.2 i hi).2.1, (wall.2.2.2 i hi).2.2.2.1⟩) ⟨fun z => absurd z (by decide), fun _ => ?_⟩ (fun met => ⟨fun _ => ?_, fun z => absurd (by decide) z⟩))
  · refine hK 0 v a ?_ ?_ (n1 _) (n0 _)
    · exact hs.reset cU.rfl' rfl rfl
    · exact ⟨fun j _ h2 _ _ => va_ne h2, fun _ _ _ _ _ _ _ _ _ _ => rfl, cU.rfl'⟩
  · have hU : ∀ i, p ≤ i → i < q2 → isU T n i → rf c w (a 5 (gC T n i - 65).toNat) := by
      intro i i1 i2 iu
      have m1 := met (i - p) (by omega)
      rw [show p + (i - p) = i from by omega] at m1
      have u1 := iu.1
      have u2 := iu.2
      exact (hs.2.2 (gC T n i - 65).toNat (by omega)).resolve_left (m1 iu)
    refine c_build hD tv hs.1 hs.2.1 (by omega) (fun i i1 i2 iu => hU i i1 (by omega) iu) (fun r3 v3 a3 c3 t1 t2 t3 t4 t5 t6 t7 t8 t9 t10 => ⟨t1.b0, t1.b6, ?_⟩)
    have ea := t1.at
    have e5 : a3 5 = a 5 := t8 5 (by decide) (by decide) (by decide) (by decide)
    refine c_build hD2 (t1.nx (by omega)) t2 t3 (by omega) (fun i i1 i2 iu => ?_) (fun r5 v5 a5 c5 s1 s2 s3 s4 s5 s6 s7 s8 s9 s10 => ?_)
    · rw [e5]
      exact (hU i (by omega) i2 iu).mono t4 (Nat.le_refl _)
    · have hc5 : c5 ≤ 26000 := by omega
      have cu : cU a a5 c := t9.trans (s9.mono t4)
      have f5 : a5 5 = a 5 := (s8 5 (by decide) (by decide) (by decide) (by decide)).trans e5
      have f17 : a5 17 = a 17 := (s8 17 (by decide) (by decide) (by decide) (by decide)).trans (t8 17 (by decide) (by decide) (by decide) (by decide))
      have oV : ∀ j, j ≠ 12 → j ≠ 37 → v5 j = v j := fun j h1 h2 => (s7 j h1 h2).trans ((va_ne h1).trans (t7 j h1 h2))
      have oA : ∀ j, j ≠ 3 → j ≠ 14 → j ≠ 15 → j ≠ 16 → a5 j = a j := fun j h1 h2 h3 h4 => (s8 j h1 h2 h3 h4).trans (t8 j h1 h2 h3 h4)
      have kend : ∀ r : Int32, (r.toInt < 0 → rf c5 w r) → K r v5 a5 := by
        intro r hr1
        refine hK r v5 a5 (hs.reset cu f5 f17) ⟨fun j h1 h2 _ _ => (va_ne h2).trans (oV j h1 h2), fun j h1 _ h3 h4 h5 _ _ _ _ => oA j h1 h3 h4 h5, cu⟩ (fun z => rf_neg (hr1 z) z) (fun _ => s1)
      have r3' := t6.mono s4 (Nat.le_refl w)
      refine ⟨fun _ => ?_, fun _ => ?_⟩
      · refine c_value s2 hw r3' (c_value s2 hw s6 ?_)
        have X := vf_rf s2 r3'
        have Y := vf_rf s2 s6
        generalize vf (a5 17) w r3 = x at *
        generalize vf (a5 17) w r5 = y at *
        have X2 := X.2
        have Y2 := Y.2
        have t3 : ((3 : Int32)).toInt = 3 := by decide
        have k0 := kend 0 (n1 _)
        have k1 := kend 1 (n2 _)
        refine ⟨fun hx => ⟨fun z => absurd z (by omega), fun _ => kend x (fun _ => X)⟩, fun hx => ⟨fun hy => ⟨fun z => absurd z (by omega), fun _ => ⟨hx, by omega, fun _ => k0, fun _ => ⟨fun z => absurd z (by omega), fun _ => ⟨hy, by omega, fun _ => k0, fun _ => ?_⟩⟩⟩⟩, fun hy => ⟨fun _ => kend y (fun _ => Y), fun z => absurd z (by omega)⟩⟩⟩
        have m1 : (x * 3).toInt = x.toInt * 3 := i32_mul (by rw [t3]) (by omega) (by omega)
        have m2 : (y * 3).toInt = y.toInt * 3 := i32_mul (by rw [t3]) (by omega) (by omega)
        exact ⟨by omega, by omega, by omega, by omega, fun _ => k0, fun _ => k1⟩
      · refine c_alike s2 hc5 hw r3' s6 (fun r v6 a6 q1 q2 => ?_)
        have cu6 : cU a a6 c := cu.trans ((yO.pairs (c := c) q2).2.2)
        have k6 : ∀ r : Int32, (r.toInt < 0 → rf c5 w r) → K r v6 a6 := by
          intro r hr1
          refine hK r v6 a6 (hs.reset cu6 ((q2.2 5 (by decide) (by decide)).trans f5) ((q2.2 17 (by decide) (by decide)).trans f17)) ⟨fun j h1 h2 h3 h4 => (va_ne h2).trans ((q2.1 j h3 h4).trans (oV j h1 h2)), fun j h1 _ h3 h4 h5 h6 h7 _ _ => (q2.2 j h6 h7).trans (oA j h1 h3 h4 h5), cu6⟩ (fun z => rf_neg (hr1 z) z) (fun _ => s1.of (q2.1 12 (by decide) (by decide)) (q2.1 13 (by decide) (by decide)) (q2.2 1 (by decide) (by decide)))
        have k0 := k6 0 (n1 _)
        have k1 := k6 1 (n2 _)
        exact ⟨fun _ => k6 r q1, fun _ => ⟨fun _ => ⟨fun _ => ⟨fun _ => k1, fun _ => k0⟩, fun _ => ⟨fun _ => k0, fun _ => k1⟩⟩, fun _ => k6 r q1⟩⟩
theorem gU_parts {k p q : Nat} (h : gU T n (k + 1) p = some q) : ∃ q1 q2, gTm T n p = some q1 ∧ (gC T n q1 = 60 ∨ gC T n q1 = 61 ∨ gC T n q1 = 126) ∧ gTm T n (q1 + 1) = some q2 ∧ ((gC T n q2 = 44 ∧ gU T n k (q2 + 1) = some q) ∨ (gC T n q2 ≠ 44 ∧ q = q2)) := by
  unfold gU at h
  cases h1 : gTm T n p with
  | none => rw [h1] at h; cases h
  | some q1 =>
    rw [h1, Option.bind_some] at h
    by_cases c1 : gC T n q1 = 60 ∨ gC T n q1 = 61 ∨ gC T n q1 = 126
    · rw [if_pos c1] at h
      cases h2 : gTm T n (q1 + 1) with
      | none => rw [h2] at h; cases h
      | some q2 =>
        rw [h2, Option.bind_some] at h
        by_cases c2 : gC T n q2 = 44
        · rw [if_pos c2] at h
          exact ⟨q1, q2, rfl, c1, h2, Or.inl ⟨c2, h⟩⟩
        · rw [if_neg c2] at h
          exact ⟨q1, q2, rfl, c1, h2, Or.inr ⟨c2, (Option.some.inj h).symm⟩⟩
    · rw [if_neg c1] at h
      cases h
/-- the GUARDS of a CLAUSE, one behind the other -/
theorem c_tr71 {p1 p2 : Int32} (hn : n ≤ 48) (hc : c + 60 ≤ 26000) (hw : w ≤ 12000) {q : Nat} : ∀ (k p : Nat) (r0 : Int32) (v : Nat → Int32) (a : Nat → Nat → Int32), gU T n k (p + 1) = some q → p < n → tV v a T b n p → yS v a c w →
    (∀ r v1 a1, yS v1 a1 c w → yO v a c v1 a1 → (r.toInt < 0 → rf c w r) → (r.toInt = 1 → tV v1 a1 T b n q) → K r v1 a1) → mT 5 sM_138 71 [(0, .ref 33), (1, .int p1), (2, .int p2), (3, .int r0)] [] v a K := by
  intro k
  induction k with
  | zero => intro p r0 v a h; cases h
  | succ k ih =>
    intro p r0 v a hU hp tv hs hK
    obtain ⟨q1, q2, h1, h2, h3, h4⟩ := gU_parts hU
    have hD2 := gTm_gD h3
    obtain ⟨l2, e2, hw2⟩ := gD_gW _ _ _ hD2
    have y1 := hw2.1
    have y2 := hw2.2.1
    have g1 := gTm_ge h1
    refine r_138_71 (c_guard (gTm_gD h1) h2 hD2 (tv.nx (by omega)) (v := va_up v 12 (v 12 + 1)) ⟨hs.1, hs.2.1, hs.2.2⟩ (by omega) hw (fun r v1 a1 s1 o1 r1 t1 => ⟨fun z => hK r _ a1 s1 (yO.trans yO.src o1) r1 (fun y => absurd y z), fun z => ?_⟩))
    have tq := t1 z
    have ea : (m_at (va_up v1 37 (v 37)) a1 (v1 12)).toInt = gC T n q2 := m_at_g (v := va_up v1 37 (v 37)) tq.2.1 tq.2.2.2.2 tq.1
    have tq' : tV (va_up v1 37 (v 37)) a1 T b n q2 := ⟨tq.1, tq.2.1, tq.2.2.1, tq.2.2.2.1, tq.2.2.2.2⟩
    refine ⟨tq.b0, tq.b6, fun y => ?_, fun y => ?_⟩
    · rw [ea] at y
      rcases h4 with ⟨h5, h6⟩ | ⟨h5, h6⟩
      · have hq2 : q2 < n := gC_lt (T := T) (by omega)
        exact ih q2 r _ a1 h6 hq2 tq' s1 (fun r2 v2 a2 s2 o2 => hK r2 v2 a2 s2 ((yO.trans yO.src o1).trans o2))
      · exact absurd y h5
    · rw [ea] at y
      rcases h4 with ⟨h5, h6⟩ | ⟨h5, h6⟩
      · exact absurd h5 y
      · subst h6
        exact hK r _ a1 s1 (yO.trans yO.src o1) r1 (fun _ => tq')
/-- what a try may change, its text's ends too -/
def zO (v : Nat → Int32) (a : Nat → Nat → Int32) (c : Nat) (v1 : Nat → Int32) (a1 : Nat → Nat → Int32) : Prop := (∀ j, j ≠ 12 → j ≠ 13 → j ≠ 37 → j ≠ 45 → j ≠ 46 → v1 j = v j) ∧ (∀ j, j ≠ 3 → j ≠ 5 → j ≠ 14 → j ≠ 15 → j ≠ 16 → j ≠ 31 → j ≠ 32 → j ≠ 33 → j ≠ 34 → a1 j = a j) ∧ cU a a1 c
theorem gCl_parts (h : gCl T n = true) : ∃ q, gTm T n 0 = some q ∧ (97 ≤ gC T n 0 ∧ gC T n 0 ≤ 122) ∧ ((gC T n q = 58 ∧ ∃ q2, gU T n (n - q + 1) (q + 1) = some q2 ∧ gE T n q2 = true) ∨ (gC T n q ≠ 58 ∧ gE T n q = true)) := by
  unfold gCl at h
  cases h1 : gTc T n 0 with
  | none => rw [h1] at h; cases h
  | some q =>
    rw [h1] at h
    dsimp only at h
    have hl : 97 ≤ gC T n 0 ∧ gC T n 0 ≤ 122 := by
      unfold gTc at h1
      by_cases c : 97 ≤ gC T n 0 ∧ gC T n 0 ≤ 122
      · exact c
      · rw [if_neg c] at h1
        cases h1
    refine ⟨q, by unfold gTc at h1; rw [if_pos hl] at h1; exact h1, hl, ?_⟩
    by_cases c : gC T n q = 58
    · rw [if_pos c] at h
      cases h2 : gU T n (n - q + 1) (q + 1) with
      | none => rw [h2] at h; cases h
      | some q2 =>
        rw [h2] at h
        exact Or.inl ⟨c, q2, rfl, h⟩
    · rw [if_neg c] at h
      exact Or.inr ⟨c, h⟩
theorem gD_ar {p q : Nat} (h : gD T n 5 p q) (hl : 97 ≤ gC T n p ∧ gC T n p ≤ 122) : ∃ k, arI T n p k := by
  rcases h with ⟨h1, h2, h3⟩ | ⟨h1, h3⟩ | ⟨h1, h2, h3⟩ | ⟨h1, h2, h3⟩ | ⟨h1, h2, j, hj, hN⟩
  · exact ⟨0, Or.inl ⟨h2, rfl⟩⟩
  · omega
  · omega
  · omega
  · obtain ⟨l2, hl2, hv2⟩ := gN_gV (gD_gW 4) _ _ _ hN
    exact ⟨j, Or.inr ⟨h2, l2, hv2⟩⟩
/-- tried(ci, call): the CLAUSE's map is made empty first -/
theorem c_tr25 {p1 call : Int32} (hn : n ≤ 48) (hc : c + 60 ≤ 26000) (hw : w ≤ 12000) {X kk : Nat} (hcl : gCl T n = true) (hX : call.toInt = (X : Int)) (hXc : X < c) (har : arI T n 0 kk) : ∀ (m u : Nat) (p3 : Int32) (v : Nat → Int32) (a : Nat → Nat → Int32), p3.toInt = (u : Int) → u + m = 26 → tV v a T b n 0 → gr a c w → (v 37).toInt = (c : Int) → (a 15 X).toInt = (kk : Int) → (∀ i, i < u → (a 5 i).toInt = 2147483647) →
    (∀ r v1 a1, yS v1 a1 c w → yO v a c v1 a1 → (r.toInt < 0 → rf c w r) → (r.toInt = 1 → ∃ q, tV v1 a1 T b n q ∧ gE T n q = true) → K r v1 a1) → mT 5 sM_138 25 [(0, .ref 33), (1, .int p1), (2, .int call), (3, .int p3)] [] v a K := by
  obtain ⟨q, h1, hlow, h4⟩ := gCl_parts hcl
  have hD := gTm_gD h1
  obtain ⟨l, e2, hw2⟩ := gD_gW _ _ _ hD
  have y2 := hw2.2.1
  intro m
  induction m with
  | zero =>
    intro u p3 v a h3 hu tv hg h37 h15 hm hK
    refine r_138_25 ⟨fun _ => ?_, fun z => absurd z (by omega)⟩
    have hs : yS v a c w := ⟨hg, h37, fun i hi => Or.inl (hm i (by omega))⟩
    refine c_match (by omega) hw hD hlow tv hs hX hXc h15 har (fun r v1 a1 s1 o1 r1 t1 => ⟨fun z => hK r v1 a1 s1 o1 r1 (fun y => absurd y z), fun z => ?_⟩)
    have tq := t1 z
    have ea := tq.at
    refine ⟨tq.b0, tq.b6, fun y => ?_, fun y => ?_⟩
    · rw [ea] at y
      rcases h4 with ⟨h5, q2, h6, h7⟩ | ⟨h5, h6⟩
      · have hq : q < n := gC_lt (T := T) (by omega)
        exact c_tr71 hn hc hw (n - q + 1) q r v1 a1 h6 hq tq s1 (fun r2 v2 a2 s2 o2 r2' t2 => hK r2 v2 a2 s2 (o1.trans o2) r2' (fun x => ⟨q2, t2 x, h7⟩))
      · exact absurd y h5
    · rw [ea] at y
      rcases h4 with ⟨h5, q2, h6, h7⟩ | ⟨h5, h6⟩
      · exact absurd h5 y
      · exact hK r v1 a1 s1 o1 r1 (fun _ => ⟨q, tq, h6⟩)
  | succ m ih =>
    intro u p3 v a h3 hu tv hg h37 h15 hm hK
    refine r_138_25 ⟨fun z => absurd z (by omega), fun _ => ⟨by omega, by omega, ?_⟩⟩
    rw [i32_cl h3]
    refine ih (u + 1) (p3 + 1) v _ (by rw [i32_succ (by omega) (by omega)]; omega) (by omega) ⟨tv.1, tv.2.1, tv.2.2.1, tv.2.2.2.1, tv.2.2.2.2⟩ (hg.of rfl rfl rfl) h37 h15 (fun i hi => ?_) (fun r v1 a1 s1 o1 => hK r v1 a1 s1 (yO.trans ⟨fun _ _ _ _ _ => rfl, fun _ _ g2 _ _ _ _ _ _ _ => va_ne g2, ⟨fun _ _ => ⟨rfl, rfl⟩, fun _ _ => rfl⟩⟩ o1))
    show (upd (a 5) u 2147483647 i).toInt = _
    by_cases e : i = u
    · subst e
      rw [ud_eq]
      decide
    · rw [ud_ne e]
      exact hm i (by omega)
theorem c_tried {p1 call : Int32} {ci X kk : Nat} (hci : p1.toInt = (ci : Int)) (hc12 : ci < 12) (hn : n ≤ 48) (h2 : (a 2 ci).toInt = (n : Int)) (hT : ∀ i, i < n → a 1 (ci * 48 + i) = T i) (hcl : gCl T n = true) (hc : c + 60 ≤ 26000) (hw : w ≤ 12000) (hg : gr a c w) (h37 : (v 37).toInt = (c : Int)) (hX : call.toInt = (X : Int)) (hXc : X < c) (h15 : (a 15 X).toInt = (kk : Int)) (har : arI T n 0 kk)
    (hK : ∀ r v1 a1, yS v1 a1 c w → zO v a c v1 a1 → (r.toInt < 0 → rf c w r) → (r.toInt = 1 → ∃ q, tV v1 a1 T (ci * 48) n q ∧ gE T n q = true) → K r v1 a1) : mT 5 sM_138 0 [(0, .ref 33), (1, .int p1), (2, .int call)] [] v a K := by
  have t48 : ((48 : Int32)).toInt = 48 := by decide
  have e0 : (p1 * 48).toInt = ((ci * 48 : Nat) : Int) := i32_mul (by rw [hci, t48]; omega) (by omega) (by omega)
  refine r_138_0 ⟨by omega, by omega, ?_⟩
  rw [i32_cl hci]
  refine c_tr25 (b := ci * 48) hn hc hw hcl hX hXc har 26 0 0 _ a (by decide) (by omega) ⟨e0, ?_, by omega, by omega, hT⟩ hg h37 h15 (fun i hi => absurd hi (by omega)) (fun r v1 a1 s1 o1 => hK r v1 a1 s1 ⟨fun j g1 g2 g3 g4 g5 => (o1.1 j g1 g3 g4 g5).trans ((va_ne g2).trans (va_ne g1)), o1.2.1, o1.2.2⟩)
  show (p1 * 48 + a 2 ci).toInt = _
  exact i32_add (by rw [e0, h2]; omega) (by omega) (by omega)
end GU
