/-! matchOne: one sign of a head against a TERM -/
section MB
variable {v v1 : Nat → Int32} {a a1 : Nat → Nat → Int32} {T : Nat → Int32} {b n c w : Nat} {K : Int32 → (Nat → Int32) → (Nat → Nat → Int32) → Prop}
/-- the state of a try; what a try may change -/
def yS (v : Nat → Int32) (a : Nat → Nat → Int32) (c w : Nat) : Prop := gr a c w ∧ (v 37).toInt = (c : Int) ∧ mp a c w
def yO (v : Nat → Int32) (a : Nat → Nat → Int32) (c : Nat) (v1 : Nat → Int32) (a1 : Nat → Nat → Int32) : Prop := (∀ j, j ≠ 12 → j ≠ 37 → j ≠ 45 → j ≠ 46 → v1 j = v j) ∧ (∀ j, j ≠ 3 → j ≠ 5 → j ≠ 14 → j ≠ 15 → j ≠ 16 → j ≠ 31 → j ≠ 32 → j ≠ 33 → j ≠ 34 → a1 j = a j) ∧ cU a a1 c
theorem yO.rfl' : yO v a c v a := ⟨fun _ _ _ _ _ => rfl, fun _ _ _ _ _ _ _ _ _ _ => rfl, cU.rfl'⟩
theorem yO.trans {v2 : Nat → Int32} {a2 : Nat → Nat → Int32} (h : yO v a c v1 a1) (g : yO v1 a1 c v2 a2) : yO v a c v2 a2 :=
  ⟨fun j h1 h2 h3 h4 => (g.1 j h1 h2 h3 h4).trans (h.1 j h1 h2 h3 h4), fun j h1 h2 h3 h4 h5 h6 h7 h8 h9 => (g.2.1 j h1 h2 h3 h4 h5 h6 h7 h8 h9).trans (h.2.1 j h1 h2 h3 h4 h5 h6 h7 h8 h9), h.2.2.trans g.2.2⟩
theorem yO.src {x : Int32} : yO v a c (va_up v 12 x) a := ⟨fun _ h1 _ _ _ => va_ne h1, fun _ _ _ _ _ _ _ _ _ _ => rfl, cU.rfl'⟩
theorem yO.pairs (h : pO v a v1 a1) : yO v a c v1 a1 := ⟨fun j _ _ h3 h4 => h.1 j h3 h4, fun j _ _ _ _ _ h6 h7 _ _ => h.2 j h6 h7, ⟨fun t _ => by rw [h.2 14 (by decide) (by decide), h.2 15 (by decide) (by decide)]; exact ⟨rfl, rfl⟩, fun i _ => by rw [h.2 16 (by decide) (by decide)]⟩⟩
theorem yS.pairs (hs : yS v a c w) (h : pO v a v1 a1) : yS v1 a1 c w := ⟨hs.1.of (h.2 15 (by decide) (by decide)) (h.2 16 (by decide) (by decide)) (h.2 17 (by decide) (by decide)), by rw [h.1 37 (by decide) (by decide)]; exact hs.2.1, hs.2.2.mono (Nat.le_refl _) (Nat.le_refl _) (h.2 5 (by decide) (by decide))⟩
theorem gr.low (hg : gr a c w) (hu : cU a a1 c) (e17 : a1 17 = a 17) : gr a1 c w := by
  refine ⟨fun t ht => ?_, fun x hx => ?_⟩
  · obtain ⟨h1, h2, h3⟩ := hg.1 t ht
    rw [(hu.1 t ht).2]
    refine ⟨h1, h2, fun i hi => ?_⟩
    rw [hu.2 _ (by omega)]
    exact h3 i hi
  · rw [e17]
    exact hg.2 x hx
/-- matchOne(t) at p -/
theorem c_matchOne {p k : Nat} {t : Int32} (tv : tV v a T b n p) (hk : (97 ≤ gC T n p ∧ gC T n p ≤ 122) ∨ isU T n p ∨ (48 ≤ gC T n p ∧ gC T n p ≤ 57)) (hs : yS v a c w) (hc : c < 26000) (hw : w ≤ 12000) (ht : rf c w t) (har : (97 ≤ gC T n p ∧ gC T n p ≤ 122) → arI T n p k)
    (hK : ∀ r v1 a1, yS v1 a1 c w → yO v a c v1 a1 → a1 33 = a 33 → a1 34 = a 34 → (r.toInt < 0 → rf c w r) → (r.toInt = 1 → tV v1 a1 T b n (lq T n p) ∧ ((97 ≤ gC T n p ∧ gC T n p ≤ 122) → ∃ X : Nat, (vf (a 17) w t).toInt = (X : Int) ∧ X < c ∧ (a 15 X).toInt = (k : Int))) → K r v1 a1) : mT 3 sM_140 0 [(0, .ref 33), (1, .int t)] [] v a K := by
  obtain ⟨hg, h37, hmp⟩ := hs
  have hn : p < n := gC_lt (T := T) (by rcases hk with h | h | h <;> first | omega | (have := h.1; have := h.2; omega))
  have ea := tv.at
  have xr := vf_rf hg ht
  have tv1 := tv.nx (by omega)
  have n0 : ∀ P : Prop, (0 : Int32).toInt = 1 → P := fun P z => absurd z (by decide)
  have n1 : ∀ P : Prop, (0 : Int32).toInt < 0 → P := fun P z => absurd z (by decide)
  have n2 : ∀ P : Prop, (1 : Int32).toInt < 0 → P := fun P z => absurd z (by decide)
  refine r_140_0 ⟨tv.b0, tv.b6, fun u1 u2 => ?_, fun u => ?_⟩
  · rw [ea] at u1 u2
    have ei : (m_at v a (v 12) - 65).toInt = (((gC T n p - 65).toNat : Nat) : Int) := i32_sub (by rw [ea, show ((65 : Int32)).toInt = 65 from by decide]; omega) (by omega) (by omega)
    have hlq : lq T n p = p + 1 := if_neg (fun z => by have := z.1.2; omega)
    have nlow : ¬ (97 ≤ gC T n p ∧ gC T n p ≤ 122) := fun z => by omega
    rw [i32_cl ei]
    have hu26 : (gC T n p - 65).toNat < 26 := by omega
    refine ⟨by omega, by omega, fun z => ⟨by omega, by omega, ?_⟩, fun z => ⟨by omega, by omega, ?_⟩⟩
    · refine hK 1 _ _ ⟨hg.of rfl rfl rfl, h37, fun u' hu' => ?_⟩ ⟨fun _ h1 _ _ _ => va_ne h1, fun _ _ h2 _ _ _ _ _ _ _ => va_ne h2, ⟨fun _ _ => ⟨rfl, rfl⟩, fun _ _ => rfl⟩⟩ rfl rfl (n2 _) (fun _ => ⟨by rw [hlq]; exact ⟨tv1.1, tv1.2.1, tv1.2.2.1, tv1.2.2.2.1, tv1.2.2.2.2⟩, fun z => absurd z nlow⟩)
      show (upd (a 5) _ t u').toInt = _ ∨ rf c w (upd (a 5) _ t u')
      by_cases e : u' = (gC T n p - 65).toNat
      · subst e
        rw [ud_eq]
        exact Or.inr ht
      · rw [ud_ne e]
        exact hmp u' hu'
    · refine c_alike (hg.of rfl rfl rfl) (by omega) hw ((hmp _ hu26).resolve_left z) ht (fun r v1 a1 q1 q2 => ?_)
      refine hK r v1 a1 (yS.pairs (v := va_up v 12 (v 12 + 1)) ⟨hg, h37, hmp⟩ q2) (yO.src.trans (yO.pairs q2)) (q2.2 33 (by decide) (by decide)) (q2.2 34 (by decide) (by decide)) q1 (fun _ => ⟨?_, fun z => absurd z nlow⟩)
      rw [hlq]
      exact tv1.of (q2.1 12 (by decide) (by decide)) (q2.1 13 (by decide) (by decide)) (q2.2 1 (by decide) (by decide))
  · rw [ea] at u
    have nU : ¬ isU T n p := fun z => by have := z.1; have := z.2; omega
    refine c_value hg hw ht ⟨fun x0 => ⟨fun d1 d2 => ?_, fun d => ?_⟩, fun x0 => hK _ v a ⟨hg, h37, hmp⟩ yO.rfl' rfl rfl (fun _ => xr) (fun z => absurd z (by omega))⟩
    · rw [ea] at d1 d2
      have nlow : ¬ (97 ≤ gC T n p ∧ gC T n p ≤ 122) := fun z => by omega
      refine c_leaf tv hk hg h37 hc (fun z => absurd z nU) (fun r v1 a1 c1 hl => ?_)
      obtain ⟨l1, l2, l3, l4, l5, l6, l7, l8, l9, l10⟩ := hl
      obtain ⟨hc1, hr, -⟩ := l10 nU
      subst hc1
      have e37 : (v1 37 - 1).toInt = (c : Int) := i32_sub (by rw [l3, show ((1 : Int32)).toInt = 1 from by decide]; omega) (by omega) (by omega)
      have hS : yS (va_up v1 37 (v1 37 - 1)) a1 c w := ⟨hg.low l7 (l9 17 (by decide) (by decide) (by decide)), e37, hmp.mono (Nat.le_refl _) (Nat.le_refl _) (l9 5 (by decide) (by decide) (by decide))⟩
      have hO : yO v a c (va_up v1 37 (v1 37 - 1)) a1 := ⟨fun j h1 h2 _ _ => (va_ne h2).trans (l8 j h1 h2), fun j _ _ h3 h4 h5 _ _ _ _ => l9 j h3 h4 h5, l7⟩
      have k0 : K 0 (va_up v1 37 (v1 37 - 1)) a1 := hK 0 _ a1 hS hO (l9 33 (by decide) (by decide) (by decide)) (l9 34 (by decide) (by decide) (by decide)) (n1 _) (n0 _)
      have k1 : K 1 (va_up v1 37 (v1 37 - 1)) a1 := hK 1 _ a1 hS hO (l9 33 (by decide) (by decide) (by decide)) (l9 34 (by decide) (by decide) (by decide)) (n2 _) (fun _ => ⟨⟨l1.1, l1.2.1, l1.2.2.1, l1.2.2.2.1, l1.2.2.2.2⟩, fun z => absurd z nlow⟩)
      have t3 : ((3 : Int32)).toInt = 3 := by decide
      have x2 := xr.2
      have em1 : (vf (a 17) w t * 3).toInt = (vf (a 17) w t).toInt * 3 := i32_mul (by rw [t3]) (by omega) (by omega)
      have em2 : (r * 3).toInt = (c : Int) * 3 := i32_mul (by rw [t3, hr]) (by omega) (by omega)
      exact ⟨fun _ => k0, fun _ => ⟨x0, by omega, fun _ => k0, fun _ => ⟨by omega, by omega, by omega, by omega, fun _ => k0, fun _ => k1⟩⟩⟩
    · rw [ea] at d
      have low : 97 ≤ gC T n p ∧ gC T n p ≤ 122 := by
        rcases hk with h | h | h
        · exact h
        · exact absurd h nU
        · omega
      have hlq : lq T n p = p + 1 := if_neg (fun z => by have := z.1.2; omega)
      have x2 := xr.2
      obtain ⟨X, eX⟩ : ∃ X : Nat, (vf (a 17) w t).toInt = (X : Int) := ⟨(vf (a 17) w t).toInt.toNat, by omega⟩
      rw [i32_cl eX]
      have k0 : K 0 v a := hK 0 v a ⟨hg, h37, hmp⟩ yO.rfl' rfl rfl (n1 _) (n0 _)
      refine ⟨x0, by omega, fun _ => k0, fun _ => ⟨x0, by omega, ?_⟩⟩
      refine c_arity tv.2.1 tv.2.2.2.1 tv.2.2.2.2 tv.1 (by omega) (har low) (fun r hr => ⟨fun z => ?_, fun _ => k0⟩)
      refine hK 1 _ a ⟨hg, h37, hmp⟩ yO.src rfl rfl (n2 _) (fun _ => ⟨by rw [hlq]; exact tv1, fun _ => ⟨X, eX, by omega, by omega⟩⟩)
end MB
