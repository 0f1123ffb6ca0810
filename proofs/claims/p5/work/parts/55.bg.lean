/-! buildGoals: the GOALS of a text come to be -/
/-- all but those of L as before -/
def fr {α : Type} (L : List Nat) (f f1 : Nat → α) : Prop := ∀ j, j ∉ L → f1 j = f j
theorem nin {j k : Nat} {L : List Nat} (h : j ∉ L) (hk : k ∈ L) : j ≠ k := fun e => h (e ▸ hk)
section FR
variable {α : Type} {L L' : List Nat} {f f1 f2 : Nat → α}
theorem fr.rfl' : fr L f f := fun _ _ => rfl
theorem fr.trans (h : fr L f f1) (g : fr L f1 f2) : fr L f f2 := fun j hj => (g j hj).trans (h j hj)
theorem fr.sub (h : fr L f f1) (hs : ∀ x ∈ L, x ∈ L') : fr L' f f1 := fun j hj => h j (fun z => hj (hs j z))
theorem fr.up {k : Nat} {x : α} (h : fr L f f1) (hk : k ∈ L) : fr L f (va_up f1 k x) := fun j hj => (va_ne (nin hj hk)).trans (h j hj)
end FR
def nA : List Nat := [3, 14, 15, 16, 18, 19, 20, 21, 22, 23, 25, 27, 28, 30]
section BG
variable {T : Nat → Int32} {b n w : Nat} {K : Int32 → (Nat → Int32) → (Nat → Nat → Int32) → Prop}
theorem gGs_parts {k p N : Nat} (h : gGs T n (k + 1) p = some N) : ∃ q, gG1 T n p = some q ∧ ((gC T n q = 44 ∧ ∃ N1, gGs T n k (q + 1) = some N1 ∧ N = N1 + 1) ∨ (gC T n q ≠ 44 ∧ q = n ∧ N = 1)) := by
  unfold gGs at h
  cases h1 : gG1 T n p with
  | none => rw [h1] at h; cases h
  | some q =>
    rw [h1, Option.bind_some] at h
    refine ⟨q, rfl, ?_⟩
    by_cases c : gC T n q = 44
    · rw [if_pos c] at h
      cases h2 : gGs T n k (q + 1) with
      | none => rw [h2] at h; cases h
      | some N1 =>
        rw [h2] at h
        exact Or.inl ⟨c, N1, rfl, (Option.some.inj h).symm⟩
    · rw [if_neg c] at h
      by_cases e : q = n
      · rw [if_pos e] at h
        exact Or.inr ⟨c, e, (Option.some.inj h).symm⟩
      · rw [if_neg e] at h
        cases h
theorem gG1_parts {p q' : Nat} (h : gG1 T n p = some q') : ∃ q, gTm T n p = some q ∧ ((isU T n p ∧ gC T n q = 35 ∧ ∃ q2, gTm T n (q + 1) = some q2 ∧ (gC T n q2 = 43 ∨ gC T n q2 = 45 ∨ gC T n q2 = 42) ∧ gTm T n (q2 + 1) = some q') ∨ (gC T n q = 61 ∧ gTm T n (q + 1) = some q') ∨ ((97 ≤ gC T n p ∧ gC T n p ≤ 122) ∧ gC T n q ≠ 61 ∧ ((gC T n q = 94 ∧ (48 ≤ gC T n (q + 1) ∧ gC T n (q + 1) ≤ 51) ∧ q' = q + 2) ∨ (gC T n q ≠ 94 ∧ q' = q)))) := by
  unfold gG1 at h
  cases h1 : gTm T n p with
  | none => rw [h1] at h; cases h
  | some q =>
    rw [h1, Option.bind_some] at h
    refine ⟨q, rfl, ?_⟩
    by_cases c : (65 ≤ gC T n p ∧ gC T n p ≤ 90) ∧ gC T n q = 35
    · rw [if_pos c] at h
      cases h2 : gTm T n (q + 1) with
      | none => rw [h2] at h; cases h
      | some q2 =>
        rw [h2, Option.bind_some] at h
        by_cases c2 : gC T n q2 = 43 ∨ gC T n q2 = 45 ∨ gC T n q2 = 42
        · rw [if_pos c2] at h
          exact Or.inl ⟨c.1, c.2, q2, rfl, c2, h⟩
        · rw [if_neg c2] at h
          cases h
    · rw [if_neg c] at h
      by_cases c2 : gC T n q = 61
      · rw [if_pos c2] at h
        exact Or.inr (Or.inl ⟨c2, h⟩)
      · rw [if_neg c2] at h
        by_cases c3 : 97 ≤ gC T n p ∧ gC T n p ≤ 122
        · rw [if_pos c3] at h
          by_cases c4 : gC T n q = 94
          · rw [if_pos c4] at h
            by_cases c5 : 48 ≤ gC T n (q + 1) ∧ gC T n (q + 1) ≤ 51
            · rw [if_pos c5] at h
              exact Or.inr (Or.inr ⟨c3, c2, Or.inl ⟨c4, c5, (Option.some.inj h).symm⟩⟩)
            · rw [if_neg c5] at h
              cases h
          · rw [if_neg c4] at h
            exact Or.inr (Or.inr ⟨c3, c2, Or.inr ⟨c4, (Option.some.inj h).symm⟩⟩)
        · rw [if_neg c3] at h
          cases h
/-- the state between two GOALS -/
def bS (v : Nat → Int32) (a : Nat → Nat → Int32) (T : Nat → Int32) (n c w : Nat) : Prop := gr a c w ∧ (v 37).toInt = (c : Int) ∧ (∀ i, i < n → isU T n i → rf c w (a 5 (gC T n i - 65).toNat)) ∧ gi v a c w (fun _ => False) 0
theorem bS.built {v v1 : Nat → Int32} {a a1 : Nat → Nat → Int32} {c c1 : Nat} (h : bS v a T n c w) (hg : gr a1 c1 w) (h37 : (v1 37).toInt = (c1 : Int)) (hc : c ≤ c1) (o : ∀ j, j ≠ 12 → j ≠ 37 → v1 j = v j) (oa : ∀ j, j ≠ 3 → j ≠ 14 → j ≠ 15 → j ≠ 16 → a1 j = a j) : bS v1 a1 T n c1 w := by
  obtain ⟨-, -, h3, h4⟩ := h
  refine ⟨hg, h37, fun i hi hu => ?_, h4.of hc (Nat.le_refl _) (o 40 (by decide) (by decide)) (fun j hj => ?_)⟩
  · rw [oa 5 (by decide) (by decide) (by decide) (by decide)]
    exact (h3 i hi hu).mono hc (Nat.le_refl _)
  · refine oa j ?_ ?_ ?_ ?_ <;> omega
set_option maxHeartbeats 1000000 in
theorem c_bg2 {p1 : Int32} (hp1 : 0 ≤ p1.toInt ∧ p1.toInt < 4) (hn : n ≤ 48) (hw : w ≤ 12000) : ∀ (k p N c : Nat) (p2 : Int32) (v : Nat → Int32) (a : Nat → Nat → Int32), (gGs T n k p = some N ∨ (p = n + 1 ∧ N = 0)) → tV v a T b n p → bS v a T n c w → c + n ≤ p + 25990 → 0 ≤ p2.toInt → p2.toInt + (N : Int) ≤ 1000 →
    (∀ r v1 a1 c1, gr a1 c1 w → (v1 37).toInt = (c1 : Int) → c ≤ c1 → c1 + p ≤ c + n + 1 → gi v1 a1 c1 w (fun _ => False) 0 → fr [11, 12, 37] v v1 → fr nA a a1 → ((v1 11).toInt = 0 → r.toInt = p2.toInt + (N : Int)) → K r v1 a1) → mT 4 sM_123 2 [(0, .ref 33), (1, .int p1), (2, .int p2)] [] v a K := by
  intro k
  induction k with
  | zero =>
    intro p N c p2 v a hN tv hS hr h20 h21 hK
    rcases hN with h | ⟨rfl, rfl⟩
    · cases h
    · obtain ⟨s1, s2, s3, s4⟩ := hS
      obtain ⟨t1, t2, t3, t4, t5⟩ := tv
      exact r_123_2 ⟨fun _ => hK p2 v a c s1 s2 (Nat.le_refl _) (by omega) s4 fr.rfl' fr.rfl' (fun _ => by omega), fun z => absurd z (by omega)⟩
  | succ k ih =>
    intro p N c p2 v a hN tv hS hr h20 h21 hK
    obtain ⟨s1, s2, s3, s4⟩ := hS
    have tv0 := tv
    obtain ⟨t1, t2, t3, t4, t5⟩ := tv
    rcases hN.symm with ⟨rfl, rfl⟩ | h
    · exact r_123_2 ⟨fun _ => hK p2 v a c s1 s2 (Nat.le_refl _) (by omega) s4 fr.rfl' fr.rfl' (fun _ => by omega), fun z => absurd z (by omega)⟩
    obtain ⟨q', hq', htail⟩ := gGs_parts h
    obtain ⟨q, hq, hcase⟩ := gG1_parts hq'
    have hD := gTm_gD hq
    obtain ⟨l, el, hW⟩ := gD_gW _ _ _ hD
    have hW1 := hW.1
    have hW2 := hW.2.1
    refine r_123_2 ⟨fun z => absurd z (by omega), fun _ => ⟨fun z => hK p2 v a c s1 s2 (Nat.le_refl _) (by omega) s4 fr.rfl' fr.rfl' (fun y => absurd y z), fun hthr => ?_⟩⟩
    have e2 : (p2 + 1).toInt = p2.toInt + 1 := i32_succ (by omega) (by omega)
    -- behind the GOAL, which ends at q'
    have tailN : N ≤ 1000 ∧ (gC T n q' = 44 → q' < n) := ⟨by omega, fun z => gC_lt (T := T) (by omega)⟩
    have k181 : ∀ (v3 : Nat → Int32) (a3 : Nat → Nat → Int32) (c3 : Nat), tV v3 a3 T b n q' → bS v3 a3 T n c3 w → c ≤ c3 → c3 + p ≤ c + q' → q' ≤ n → fr [11, 12, 37] v v3 → fr nA a a3 → mT 4 sM_123 181 [(0, .ref 33), (1, .int p1), (2, .int p2)] [] v3 a3 K := by
      intro v3 a3 c3 tv3 hS3 hc3 hc3' hq'n o1 o2
      have tv4 := tv3.nx hq'n
      refine r_123_181 ?_
      rcases htail with ⟨hc4, N1, hN1, hNN⟩ | ⟨hc4, hqn, hNN⟩
      · refine ih (q' + 1) N1 c3 (p2 + 1) _ a3 (Or.inl hN1) tv4 ⟨hS3.1, hS3.2.1, hS3.2.2.1, hS3.2.2.2.of (Nat.le_refl _) (Nat.le_refl _) rfl (fun _ _ => rfl)⟩ (by omega) (by omega) (by omega) (fun r v4 a4 c4 w1 w2 w3 w4 w5 w6 w7 w8 => ?_)
        exact hK r v4 a4 c4 w1 w2 (by omega) (by omega) w5 ((o1.up (by decide)).trans w6) (o2.trans w7) (fun z => by have := w8 z; omega)
      · refine ih (q' + 1) 0 c3 (p2 + 1) _ a3 (Or.inr ⟨by omega, rfl⟩) tv4 ⟨hS3.1, hS3.2.1, hS3.2.2.1, hS3.2.2.2.of (Nat.le_refl _) (Nat.le_refl _) rfl (fun _ _ => rfl)⟩ (by omega) (by omega) (by omega) (fun r v4 a4 c4 w1 w2 w3 w4 w5 w6 w7 w8 => ?_)
        exact hK r v4 a4 c4 w1 w2 (by omega) (by omega) w5 ((o1.up (by decide)).trans w6) (o2.trans w7) (fun z => by have := w8 z; omega)
    -- one GOAL is put
    have kput : ∀ (x1 x2 x3 x4 x5 x6 : Int32) (v3 : Nat → Int32) (a3 : Nat → Nat → Int32) (c3 : Nat) (K' : Int32 → (Nat → Int32) → (Nat → Nat → Int32) → Prop), bS v3 a3 T n c3 w → (0 ≤ x2.toInt ∧ x2.toInt < 4) → rf c3 w x3 → (x1.toInt = 0 → 0 ≤ x3.toInt) → (x1.toInt ≠ 0 → rf c3 w x4) → (x1.toInt = 2 → rf c3 w x5) → (∀ v4 a4, bS v4 a4 T n c3 w → fr [11] v3 v4 → fr [18, 19, 20, 21, 22, 23, 25, 27, 28, 30] a3 a4 → K' 0 v4 a4) → mT 1 sM_130 0 [(0, .ref 33), (1, .int x1), (2, .int x2), (3, .int x3), (4, .int x4), (5, .int x5), (6, .int x6)] [] v3 a3 K' := by
      intro x1 x2 x3 x4 x5 x6 v3 a3 c3 K' hS3 y2 y3 y30 y4 y5 hk
      obtain ⟨u1, u2, u3, u4⟩ := hS3
      refine c_put u4 y2 y3 y30 y4 y5 (fun a4 g4 o4 => ?_) ?_
      · have o4' : fr [18, 19, 20, 21, 22, 23, 25, 27, 28, 30] a3 a4 := fun j hj => o4 j (nin hj (by decide)) (nin hj (by decide)) (nin hj (by decide)) (nin hj (by decide)) (nin hj (by decide)) (nin hj (by decide)) (nin hj (by decide)) (nin hj (by decide)) (nin hj (by decide)) (nin hj (by decide))
        refine hk v3 a4 ⟨u1.of (o4' 15 (by decide)) (o4' 16 (by decide)) (o4' 17 (by decide)), u2, fun i hi hu => ?_, g4⟩ fr.rfl' o4'
        rw [o4' 5 (by decide)]
        exact u3 i hi hu
      · exact hk _ a3 ⟨u1, u2, u3, u4.of (Nat.le_refl _) (Nat.le_refl _) rfl (fun _ _ => rfl)⟩ (fr.rfl'.up (by decide)) fr.rfl'
    refine c_build hD tv0 s1 s2 (by omega) (fun i i1 i2 iu => s3 i (by omega) iu) (fun r3 v3 a3 c3 b1 b2 b3 b4 b5 b6 b7 b8 b9 b10 => ⟨b1.b0, b1.b6, ?_⟩)
    have ea := b1.at
    have hS3 : bS v3 a3 T n c3 w := bS.built ⟨s1, s2, s3, s4⟩ b2 b3 b4 b7 b8
    have o1 : fr [11, 12, 37] v v3 := fun j hj => b7 j (nin hj (by decide)) (nin hj (by decide))
    have o2 : fr nA a a3 := fun j hj => b8 j (nin hj (by decide)) (nin hj (by decide)) (nin hj (by decide)) (nin hj (by decide))
    rcases hcase with ⟨hu, h35, q2, hq2, hop, hq3⟩ | ⟨h61, hq2⟩ | ⟨hlow, h61, h94⟩
    · -- a reckoning
      have hD2 := gTm_gD hq2
      obtain ⟨l2, el2, hW'⟩ := gD_gW _ _ _ hD2
      have hW3 := hW'.1
      have hW4 := hW'.2.1
      have hD3 := gTm_gD hq3
      obtain ⟨l3, el3, hW''⟩ := gD_gW _ _ _ hD3
      have hW5 := hW''.1
      have hW6 := hW''.2.1
      refine ⟨fun z => absurd (ea.trans h35) z, fun _ => ?_⟩
      refine c_build hD2 (b1.nx (by omega)) (v := va_up v3 12 (v3 12 + 1)) hS3.1 hS3.2.1 (by omega) (fun i i1 i2 iu => hS3.2.2.1 i (by omega) iu) (fun r6 v6 a6 c6 d1 d2 d3 d4 d5 d6 d7 d8 d9 d10 => ⟨d1.b0, d1.b6, ?_⟩)
      have hS6 : bS v6 a6 T n c6 w := bS.built (v := va_up v3 12 (v3 12 + 1)) ⟨hS3.1, hS3.2.1, hS3.2.2.1, hS3.2.2.2.of (Nat.le_refl _) (Nat.le_refl _) rfl (fun _ _ => rfl)⟩ d2 d3 d4 d7 d8
      refine c_build hD3 (d1.nx (by omega)) (v := va_up v6 12 (v6 12 + 1)) hS6.1 hS6.2.1 (by omega) (fun i i1 i2 iu => hS6.2.2.1 i (by omega) iu) (fun r8 v8 a8 c8 f1 f2 f3 f4 f5 f6 f7 f8 f9 f10 => ?_)
      have hS8 : bS v8 a8 T n c8 w := bS.built (v := va_up v6 12 (v6 12 + 1)) ⟨hS6.1, hS6.2.1, hS6.2.2.1, hS6.2.2.2.of (Nat.le_refl _) (Nat.le_refl _) rfl (fun _ _ => rfl)⟩ f2 f3 f4 f7 f8
      refine kput _ _ _ _ _ _ _ _ c8 _ hS8 hp1 (b6.mono (by omega) (Nat.le_refl _)) (fun z => absurd z (by decide)) (fun _ => d6.mono (by omega) (Nat.le_refl _)) (fun _ => f6) (fun v9 a9 g1 g2 g3 => ?_)
      have p1' : fr [11, 12, 37] v v6 := (o1.up (by decide)).trans (fun j hj => d7 j (nin hj (by decide)) (nin hj (by decide)))
      have p2' : fr nA a a6 := o2.trans (fun j hj => d8 j (nin hj (by decide)) (nin hj (by decide)) (nin hj (by decide)) (nin hj (by decide)))
      have p3' : fr [11, 12, 37] v v8 := (p1'.up (by decide)).trans (fun j hj => f7 j (nin hj (by decide)) (nin hj (by decide)))
      have p4' : fr nA a a8 := p2'.trans (fun j hj => f8 j (nin hj (by decide)) (nin hj (by decide)) (nin hj (by decide)) (nin hj (by decide)))
      exact k181 v9 a9 c8 (f1.of (g2 12 (by decide)) (g2 13 (by decide)) (g3 1 (by decide))) g1 (by omega) (by omega) (by omega) (p3'.trans (g2.sub (by decide))) (p4'.trans (g3.sub (by decide)))
    · -- two TERMS made the same
      have hD2 := gTm_gD hq2
      obtain ⟨l2, el2, hW'⟩ := gD_gW _ _ _ hD2
      have hW3 := hW'.1
      have hW4 := hW'.2.1
      refine ⟨fun _ => ⟨fun z => absurd (ea.trans h61) z, fun _ => ?_⟩, fun z => absurd (ea.symm.trans z) (by omega)⟩
      refine c_build hD2 (b1.nx (by omega)) (v := va_up v3 12 (v3 12 + 1)) hS3.1 hS3.2.1 (by omega) (fun i i1 i2 iu => hS3.2.2.1 i (by omega) iu) (fun r6 v6 a6 c6 d1 d2 d3 d4 d5 d6 d7 d8 d9 d10 => ?_)
      have hS6 : bS v6 a6 T n c6 w := bS.built (v := va_up v3 12 (v3 12 + 1)) ⟨hS3.1, hS3.2.1, hS3.2.2.1, hS3.2.2.2.of (Nat.le_refl _) (Nat.le_refl _) rfl (fun _ _ => rfl)⟩ d2 d3 d4 d7 d8
      refine kput _ _ _ _ _ _ _ _ c6 _ hS6 hp1 (b6.mono (by omega) (Nat.le_refl _)) (fun z => absurd z (by decide)) (fun _ => d6) (fun z => absurd z (by decide)) (fun v9 a9 g1 g2 g3 => ?_)
      have p1' : fr [11, 12, 37] v v6 := (o1.up (by decide)).trans (fun j hj => d7 j (nin hj (by decide)) (nin hj (by decide)))
      have p2' : fr nA a a6 := o2.trans (fun j hj => d8 j (nin hj (by decide)) (nin hj (by decide)) (nin hj (by decide)) (nin hj (by decide)))
      exact k181 v9 a9 c6 (d1.of (g2 12 (by decide)) (g2 13 (by decide)) (g3 1 (by decide))) g1 (by omega) (by omega) (by omega) (p1'.trans (g2.sub (by decide))) (p2'.trans (g3.sub (by decide)))
    · -- a CALL
      have nU : ¬ isU T n p := fun z => by have := z.2; omega
      have x30 := b10 nU
      rcases h94 with ⟨h94, hdig, rfl⟩ | ⟨h94, rfl⟩
      · have hq1 : q + 1 < n := gC_lt (T := T) (by omega)
        refine ⟨fun _ => ⟨fun _ => ⟨fun z => absurd (ea.trans h94) z, fun _ => ⟨by have := b1.e1; omega, b1.b6, ?_⟩⟩, fun z => absurd (ea.symm.trans z) h61⟩, fun z => absurd (ea.symm.trans z) (by omega)⟩
        have ea1 := b1.at1
        have elv : (m_at v3 a3 (v3 12 + 1) - 48).toInt = gC T n (q + 1) - 48 := i32_sub (by rw [ea1, show ((48 : Int32)).toInt = 48 from by decide]) (by omega) (by omega)
        refine kput _ _ _ _ _ _ _ _ c3 _ hS3 ⟨by omega, by omega⟩ b6 (fun _ => x30) (fun z => absurd (by decide) z) (fun z => absurd z (by decide)) (fun v9 a9 g1 g2 g3 => ?_)
        have tv9 : tV v9 a9 T b n q := b1.of (g2 12 (by decide)) (g2 13 (by decide)) (g3 1 (by decide))
        refine k181 _ a9 c3 ⟨?_, tv9.2.1, by omega, tv9.2.2.2.1, tv9.2.2.2.2⟩ ⟨g1.1, g1.2.1, g1.2.2.1, g1.2.2.2.of (Nat.le_refl _) (Nat.le_refl _) rfl (fun _ _ => rfl)⟩ (by omega) (by omega) (by omega) ((o1.trans (g2.sub (by decide))).up (by decide)) (o2.trans (g3.sub (by decide)))
        show (v9 12 + 2).toInt = _
        have := tv9.1
        exact i32_add (by rw [this, show ((2 : Int32)).toInt = 2 from by decide]; omega) (by omega) (by omega)
      · have hx : gC T n q' ≠ 35 := by
          rcases htail with ⟨z, -⟩ | ⟨-, z, -⟩
          · omega
          · intro y
            have := gC_lt (T := T) (n := n) (p := q') (by omega)
            omega
        refine ⟨fun _ => ⟨fun _ => ⟨fun _ => ?_, fun z => absurd (ea.symm.trans z) h94⟩, fun z => absurd (ea.symm.trans z) h61⟩, fun z => absurd (ea.symm.trans z) hx⟩
        refine kput _ _ _ _ _ _ _ _ c3 _ hS3 hp1 b6 (fun _ => x30) (fun z => absurd (by decide) z) (fun z => absurd z (by decide)) (fun v9 a9 g1 g2 g3 => ?_)
        exact k181 v9 a9 c3 (b1.of (g2 12 (by decide)) (g2 13 (by decide)) (g3 1 (by decide))) g1 (by omega) (by omega) (by omega) (o1.trans (g2.sub (by decide))) (o2.trans (g3.sub (by decide)))
end BG
