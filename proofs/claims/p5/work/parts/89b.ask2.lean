/-! ask of the reference, WITH what it throws: nothing, if the QUESTION can be read (variants of parts 54, 55, 61, by program: wip/sx/gen_ask2.py) -/
def nt (v : Nat → Int32) (a : Nat → Nat → Int32) (N : Nat) : Prop := (v 11).toInt = 0 ∧ ∀ z : Nat, (v 40).toInt = (z : Int) → sS a + z + N ≤ 60
theorem nt.of {v v1 : Nat → Int32} {a a1 : Nat → Nat → Int32} {N : Nat} (h : nt v a N) (e11 : v1 11 = v 11) (e40 : v1 40 = v 40) (e28 : a1 28 = a 28) : nt v1 a1 N := by
  have e : sS a1 = sS a := by
    unfold sS sz
    rw [e28]
  unfold nt
  rw [e11, e40, e]
  exact h
theorem gGs_le {T : Nat → Int32} {n : Nat} : ∀ (k p N : Nat), gGs T n k p = some N → N ≤ k := by
  intro k
  induction k with
  | zero => intro p N hx; cases hx
  | succ k ihk =>
    intro p N hx
    obtain ⟨q', -, hy⟩ := gGs_parts hx
    rcases hy with ⟨-, N1, hN1, e⟩ | ⟨-, -, e⟩
    · have := ihk _ _ hN1
      omega
    · omega
section GO
variable {v v1 : Nat → Int32} {a a1 : Nat → Nat → Int32} {c w c1 w1 : Nat} {K : Int32 → (Nat → Int32) → (Nat → Nat → Int32) → Prop}
theorem c_put23s {p1 p2 p3 p4 p5 p6 : Int32} (hg : gi v a c w (fun _ => False) 0) (h59 : ∀ z : Nat, (v 40).toInt = (z : Int) → sS a + z ≤ 59) (hl : 0 ≤ p2.toInt ∧ p2.toInt < 4) (h3 : rf c w p3) (h30 : p1.toInt = 0 → 0 ≤ p3.toInt) (h4 : p1.toInt ≠ 0 → rf c w p4) (h5 : p1.toInt = 2 → rf c w p5)
    (hK : ∀ a1, gi v a1 c w (fun _ => False) 0 → sS a1 = sS a + 1 → (∀ j, j ≠ 18 → j ≠ 19 → j ≠ 20 → j ≠ 21 → j ≠ 22 → j ≠ 23 → j ≠ 25 → j ≠ 27 → j ≠ 28 → j ≠ 30 → a1 j = a j) → K 0 v a1) {i0 : Nat} (hi0 : i0 < 61) (hfree : (a 30 i0).toInt = 0) : ∀ (m u : Nat) (p7 : Int32), p7.toInt = (u : Int) → u + m = i0 → mT 1 sM_130 23 [(0, .ref 33), (1, .int p1), (2, .int p2), (3, .int p3), (4, .int p4), (5, .int p5), (6, .int p6), (7, .int p7)] [] v a K := by
  have hbd := hg.bound
  have hg0 := hg
  obtain ⟨h1, ⟨z, z1, z2, z3, z4⟩, h3', h4'⟩ := hg
  have z59 := h59 z z1
  obtain ⟨l, el⟩ : ∃ l : Nat, p2.toInt = (l : Int) := ⟨p2.toInt.toNat, by omega⟩
  have hl4 : l < 4 := by omega
  have es := sz_eq (h1.1 l hl4)
  have sl := sz_le (a := a) hl4
  have t61 : ((61 : Int32)).toInt = 61 := by decide
  have ei : (p2 * 61 + a 28 l).toInt = ((l * 61 + sz a l : Nat) : Int) := i32_add (by rw [i32_mul (s := (l : Int) * 61) (by rw [el, t61]) (by omega) (by omega), es]; omega) (by omega) (by omega)
  have hit : ∀ (u : Nat) (p7 : Int32), p7.toInt = (u : Int) → u < 61 → (a 30 u).toInt = 0 → mT 1 sM_130 23 [(0, .ref 33), (1, .int p1), (2, .int p2), (3, .int p3), (4, .int p4), (5, .int p5), (6, .int p6), (7, .int p7)] [] v a K := by
    intro u p7 hu hu6 hz
    refine r_130_23 ⟨by omega, by omega, fun _ => ?_, fun y => ?_⟩
    · rw [i32_cl hu, ud_eq, i32_cl el, ei, i32_cl ei]
      refine ⟨by omega, by omega, by omega, by omega, by omega, by omega, by omega, by omega, by omega, by omega, by omega, by omega, by omega, by omega, by omega, by omega, by omega, by omega, by omega, by omega, by omega, by omega, by omega, by omega, by omega, by omega, hK _ ?_ ?_ (fun j q1 q2 q3 q4 q5 q6 q7 q8 q9 q10 => ?_)⟩
      · have hsl : (a 25 u).toInt = 0 := by
          by_cases y : (a 25 u).toInt = 0
          · exact y
          · exact absurd hz ((h3' u hu6).2.2 y)
        have ex : (a 28 l + 1).toInt = ((sz a l + 1 : Nat) : Int) := by
          rw [i32_succ (by omega) (by omega), es]
          omega
        refine ⟨?_, ⟨z, z1, ?_, ?_, ?_⟩, fun g hg6 => ?_, fun g hg6 q => ?_⟩
        · refine rW_enter (a := a) (P := fun g => (a 30 g).toInt ≠ 0 ∧ (a 25 g).toInt = 0 ∧ ¬ False) (l := l) (g := u) (G := p7) (x := a 28 l + 1) h1 hl4 hu6 hbd (fun q => q.1 hz) rfl hu rfl ex (fun g' q => ?_) ?_
          · have ne : g' ≠ u := fun y => by subst y; exact q.1 hz
            refine ⟨?_, ?_, q.2.2⟩
            · show (upd (a 30) u 1 g').toInt ≠ 0
              rw [ud_ne ne]
              exact q.1
            · show (upd (a 25) u 0 g').toInt = 0
              rw [ud_ne ne]
              exact q.2.1
          · refine ⟨?_, ?_, fun y => y⟩
            · show (upd (a 30) u 1 u).toInt ≠ 0
              rw [ud_eq]
              decide
            · show (upd (a 25) u 0 u).toInt = 0
              rw [ud_eq]
              decide
        · show cn (upd (a 25) u 0) 61 = z
          rw [cn_keep hsl (by decide)]
          exact z2
        · show cn (upd (a 30) u 1) 61 = _
          rw [cn_set hz (by decide) 61 hu6, sS_inc (a := a) (l := l) hl4 rfl ex, z3]
          omega
        · rw [sS_inc (a := a) (l := l) hl4 rfl ex]
          omega
        · show 0 ≤ (upd (a 25) u 0 g).toInt ∧ (upd (a 25) u 0 g).toInt ≤ 14 ∧ ((upd (a 25) u 0 g).toInt ≠ 0 → (upd (a 30) u 1 g).toInt ≠ 0)
          by_cases e : g = u
          · subst e
            rw [ud_eq, ud_eq]
            decide
          · rw [ud_ne e, ud_ne e]
            exact h3' g hg6
        · have q' : (upd (a 30) u 1 g).toInt ≠ 0 := q
          show (0 ≤ (upd (a 19) u p2 g).toInt ∧ (upd (a 19) u p2 g).toInt < 4) ∧ rf c w (upd (a 20) u p3 g) ∧ ((upd (a 18) u p1 g).toInt = 0 → 0 ≤ (upd (a 20) u p3 g).toInt) ∧ ((upd (a 18) u p1 g).toInt ≠ 0 → rf c w (upd (a 21) u p4 g)) ∧ ((upd (a 18) u p1 g).toInt = 2 → rf c w (upd (a 22) u p5 g))
          by_cases e : g = u
          · subst e
            rw [ud_eq, ud_eq, ud_eq, ud_eq, ud_eq]
            exact ⟨hl, h3, h30, h4, h5⟩
          · rw [ud_ne e] at q'
            rw [ud_ne e, ud_ne e, ud_ne e, ud_ne e, ud_ne e]
            exact h4' g hg6 q'
      · exact sS_inc (a := a) (l := l) hl4 rfl (by rw [i32_succ (by omega) (by omega), es]; omega)
      · rw [va_ne q9, va_ne q8, va_ne q7, va_ne q6, va_ne q5, va_ne q4, va_ne q3, va_ne q2, va_ne q1, va_ne q10]
    · rw [i32_cl hu] at y
      exact absurd hz y
  intro m
  induction m with
  | zero =>
    intro u p7 hu hm
    obtain rfl : u = i0 := by omega
    exact hit u p7 hu hi0 hfree
  | succ m ih =>
    intro u p7 hu hm
    by_cases hz : (a 30 u).toInt = 0
    · exact hit u p7 hu (by omega) hz
    · refine r_130_23 ⟨by omega, by omega, fun y => ?_, fun _ => ih (u + 1) (p7 + 1) (by rw [i32_succ (by omega) (by omega)]; omega) (by omega)⟩
      rw [i32_cl hu] at y
      exact absurd y hz
theorem c_puts {p1 p2 p3 p4 p5 p6 : Int32} (hg : gi v a c w (fun _ => False) 0) (hl : 0 ≤ p2.toInt ∧ p2.toInt < 4) (h3 : rf c w p3) (h30 : p1.toInt = 0 → 0 ≤ p3.toInt) (h4 : p1.toInt ≠ 0 → rf c w p4) (h5 : p1.toInt = 2 → rf c w p5)
    (hK : ∀ a1, gi v a1 c w (fun _ => False) 0 → sS a1 = sS a + 1 → (∀ j, j ≠ 18 → j ≠ 19 → j ≠ 20 → j ≠ 21 → j ≠ 22 → j ≠ 23 → j ≠ 25 → j ≠ 27 → j ≠ 28 → j ≠ 30 → a1 j = a j) → K 0 v a1) (hT : (∀ z : Nat, (v 40).toInt = (z : Int) → 60 ≤ sS a + z) → K 0 (va_up v 11 2) a) : mT 1 sM_130 0 [(0, .ref 33), (1, .int p1), (2, .int p2), (3, .int p3), (4, .int p4), (5, .int p5), (6, .int p6)] [] v a K := by
  have hg0 := hg
  obtain ⟨h1, ⟨z, z1, z2, z3, z4⟩, -⟩ := hg
  have eR := inR h1 (by omega)
  have eT : ((((((a 28) 0) + ((a 28) 1)) + ((a 28) 2)) + ((a 28) 3)) + v 40).toInt = ((sS a + z : Nat) : Int) := i32_add (by rw [eR, z1]; omega) (by omega) (by omega)
  obtain ⟨i0, hi0, hf⟩ := cn_free (f := a 30) 61 (by omega)
  refine r_130_0 ⟨fun y => ?_, fun y => hT (fun z' hz' => by rw [eT] at y; omega)⟩
  rw [eT] at y
  exact c_put23s hg0 (fun z' hz' => by omega) hl h3 h30 h4 h5 hK hi0 hf i0 0 0 (by decide) (by omega)
end GO
section BG
variable {T : Nat → Int32} {b n w : Nat} {K : Int32 → (Nat → Int32) → (Nat → Nat → Int32) → Prop}
set_option maxHeartbeats 1000000 in
theorem c_bg2s {p1 : Int32} (hp1 : 0 ≤ p1.toInt ∧ p1.toInt < 4) (hn : n ≤ 48) (hw : w ≤ 12000) : ∀ (k p N c : Nat) (p2 : Int32) (v : Nat → Int32) (a : Nat → Nat → Int32), (gGs T n k p = some N ∨ (p = n + 1 ∧ N = 0)) → tV v a T b n p → bS v a T n c w → c + n ≤ p + 25990 → 0 ≤ p2.toInt → p2.toInt + (N : Int) ≤ 1000 → nt v a N →
    (∀ r v1 a1 c1, gr a1 c1 w → (v1 37).toInt = (c1 : Int) → c ≤ c1 → c1 + p ≤ c + n + 1 → gi v1 a1 c1 w (fun _ => False) 0 → fr [11, 12, 37] v v1 → fr nA a a1 → (v1 11).toInt = 0 → r.toInt = p2.toInt + (N : Int) → K r v1 a1) → mT 4 sM_123 2 [(0, .ref 33), (1, .int p1), (2, .int p2)] [] v a K := by
  intro k
  induction k with
  | zero =>
    intro p N c p2 v a hN tv hS hr h20 h21 hnt hK
    rcases hN with h | ⟨rfl, rfl⟩
    · cases h
    · obtain ⟨s1, s2, s3, s4⟩ := hS
      obtain ⟨t1, t2, t3, t4, t5⟩ := tv
      exact r_123_2 ⟨fun _ => hK p2 v a c s1 s2 (Nat.le_refl _) (by omega) s4 fr.rfl' fr.rfl' hnt.1 (by omega), fun z => absurd z (by omega)⟩
  | succ k ih =>
    intro p N c p2 v a hN tv hS hr h20 h21 hnt hK
    obtain ⟨s1, s2, s3, s4⟩ := hS
    have tv0 := tv
    obtain ⟨t1, t2, t3, t4, t5⟩ := tv
    rcases hN.symm with ⟨rfl, rfl⟩ | h
    · exact r_123_2 ⟨fun _ => hK p2 v a c s1 s2 (Nat.le_refl _) (by omega) s4 fr.rfl' fr.rfl' hnt.1 (by omega), fun z => absurd z (by omega)⟩
    obtain ⟨q', hq', htail⟩ := gGs_parts h
    obtain ⟨q, hq, hcase⟩ := gG1_parts hq'
    obtain ⟨N', hN'⟩ : ∃ N', N = N' + 1 := by
      rcases htail with ⟨-, N1, -, e⟩ | ⟨-, -, e⟩
      · exact ⟨N1, by omega⟩
      · exact ⟨0, by omega⟩
    have hD := gTm_gD hq
    obtain ⟨l, el, hW⟩ := gD_gW _ _ _ hD
    have hW1 := hW.1
    have hW2 := hW.2.1
    refine r_123_2 ⟨fun z => absurd z (by omega), fun _ => ⟨fun z => absurd hnt.1 z, fun hthr => ?_⟩⟩
    have e2 : (p2 + 1).toInt = p2.toInt + 1 := i32_succ (by omega) (by omega)
    -- behind the GOAL, which ends at q'
    have tailN : N ≤ 1000 ∧ (gC T n q' = 44 → q' < n) := ⟨by omega, fun z => gC_lt (T := T) (by omega)⟩
    have k181 : ∀ (v3 : Nat → Int32) (a3 : Nat → Nat → Int32) (c3 : Nat), tV v3 a3 T b n q' → bS v3 a3 T n c3 w → c ≤ c3 → c3 + p ≤ c + q' → q' ≤ n → fr [11, 12, 37] v v3 → fr nA a a3 → nt v3 a3 N' → mT 4 sM_123 181 [(0, .ref 33), (1, .int p1), (2, .int p2)] [] v3 a3 K := by
      intro v3 a3 c3 tv3 hS3 hc3 hc3' hq'n o1 o2 n3
      have tv4 := tv3.nx hq'n
      refine r_123_181 ?_
      rcases htail with ⟨hc4, N1, hN1, hNN⟩ | ⟨hc4, hqn, hNN⟩
      · refine ih (q' + 1) N1 c3 (p2 + 1) _ a3 (Or.inl hN1) tv4 ⟨hS3.1, hS3.2.1, hS3.2.2.1, hS3.2.2.2.of (Nat.le_refl _) (Nat.le_refl _) rfl (fun _ _ => rfl)⟩ (by omega) (by omega) (by omega) ⟨n3.1, fun z hz => by have := n3.2 z hz; omega⟩ (fun r v4 a4 c4 w1 w2 w3 w4 w5 w6 w7 w8 w9 => ?_)
        exact hK r v4 a4 c4 w1 w2 (by omega) (by omega) w5 ((o1.up (by decide)).trans w6) (o2.trans w7) w8 (by omega)
      · refine ih (q' + 1) 0 c3 (p2 + 1) _ a3 (Or.inr ⟨by omega, rfl⟩) tv4 ⟨hS3.1, hS3.2.1, hS3.2.2.1, hS3.2.2.2.of (Nat.le_refl _) (Nat.le_refl _) rfl (fun _ _ => rfl)⟩ (by omega) (by omega) (by omega) ⟨n3.1, fun z hz => by have := n3.2 z hz; omega⟩ (fun r v4 a4 c4 w1 w2 w3 w4 w5 w6 w7 w8 w9 => ?_)
        exact hK r v4 a4 c4 w1 w2 (by omega) (by omega) w5 ((o1.up (by decide)).trans w6) (o2.trans w7) w8 (by omega)
    -- one GOAL is put
    have kput : ∀ (x1 x2 x3 x4 x5 x6 : Int32) (v3 : Nat → Int32) (a3 : Nat → Nat → Int32) (c3 : Nat) (K' : Int32 → (Nat → Int32) → (Nat → Nat → Int32) → Prop), bS v3 a3 T n c3 w → nt v3 a3 N → (0 ≤ x2.toInt ∧ x2.toInt < 4) → rf c3 w x3 → (x1.toInt = 0 → 0 ≤ x3.toInt) → (x1.toInt ≠ 0 → rf c3 w x4) → (x1.toInt = 2 → rf c3 w x5) → (∀ v4 a4, bS v4 a4 T n c3 w → fr [11] v3 v4 → fr [18, 19, 20, 21, 22, 23, 25, 27, 28, 30] a3 a4 → nt v4 a4 N' → K' 0 v4 a4) → mT 1 sM_130 0 [(0, .ref 33), (1, .int x1), (2, .int x2), (3, .int x3), (4, .int x4), (5, .int x5), (6, .int x6)] [] v3 a3 K' := by
      intro x1 x2 x3 x4 x5 x6 v3 a3 c3 K' hS3 n3 y2 y3 y30 y4 y5 hk
      obtain ⟨u1, u2, u3, u4⟩ := hS3
      refine c_puts u4 y2 y3 y30 y4 y5 (fun a4 g4 gs o4 => ?_) (fun hx => ?_)
      · have o4' : fr [18, 19, 20, 21, 22, 23, 25, 27, 28, 30] a3 a4 := fun j hj => o4 j (nin hj (by decide)) (nin hj (by decide)) (nin hj (by decide)) (nin hj (by decide)) (nin hj (by decide)) (nin hj (by decide)) (nin hj (by decide)) (nin hj (by decide)) (nin hj (by decide)) (nin hj (by decide))
        refine hk v3 a4 ⟨u1.of (o4' 15 (by decide)) (o4' 16 (by decide)) (o4' 17 (by decide)), u2, fun i hi hu => ?_, g4⟩ fr.rfl' o4' ⟨n3.1, fun z hz => by have := n3.2 z hz; omega⟩
        rw [o4' 5 (by decide)]
        exact u3 i hi hu
      · obtain ⟨-, ⟨z, z1, -⟩, -⟩ := id u4
        have := hx z z1
        have := n3.2 z z1
        omega
    refine c_build hD tv0 s1 s2 (by omega) (fun i i1 i2 iu => s3 i (by omega) iu) (fun r3 v3 a3 c3 b1 b2 b3 b4 b5 b6 b7 b8 b9 b10 => ⟨b1.b0, b1.b6, ?_⟩)
    have ea := b1.at
    have nt3 : nt v3 a3 N := hnt.of (b7 11 (by decide) (by decide)) (b7 40 (by decide) (by decide)) (b8 28 (by decide) (by decide) (by decide) (by decide))
    have hS3 : bS v3 a3 T n c3 w := bS.built ⟨s1, s2, s3, s4⟩ b2 b3 b4 b7 b8
    have o1 : fr [11, 12, 37] v v3 := fun j hj => b7 j (nin hj (by decide)) (nin hj (by decide))
    have o2 : fr nA a a3 := fun j hj => b8 j (nin hj (by decide)) (nin hj (by decide)) (nin hj (by decide)) (nin hj (by decide))
    rcases hcase with ⟨hu, h35, q2, hq2, hop, hq3⟩ | ⟨h61, hq2⟩ | ⟨hlow, h61, h94⟩
    · -- a reckoning
      have hD2 := gTm_gD hq2
      obtain ⟨l2, el2, hW'⟩ := gD_gW _ _ _ hD2
      have hW3 := hW'.1
      have hW4 := hW'.2.1
      have hD3 := gTm_gD hq3
      obtain ⟨l3, el3, hW''⟩ := gD_gW _ _ _ hD3
      have hW5 := hW''.1
      have hW6 := hW''.2.1
      refine ⟨fun z => absurd (ea.trans h35) z, fun _ => ?_⟩
      refine c_build hD2 (b1.nx (by omega)) (v := va_up v3 12 (v3 12 + 1)) hS3.1 hS3.2.1 (by omega) (fun i i1 i2 iu => hS3.2.2.1 i (by omega) iu) (fun r6 v6 a6 c6 d1 d2 d3 d4 d5 d6 d7 d8 d9 d10 => ⟨d1.b0, d1.b6, ?_⟩)
      have hS6 : bS v6 a6 T n c6 w := bS.built (v := va_up v3 12 (v3 12 + 1)) ⟨hS3.1, hS3.2.1, hS3.2.2.1, hS3.2.2.2.of (Nat.le_refl _) (Nat.le_refl _) rfl (fun _ _ => rfl)⟩ d2 d3 d4 d7 d8
      have nt6 : nt v6 a6 N := nt3.of (d7 11 (by decide) (by decide)) (d7 40 (by decide) (by decide)) (d8 28 (by decide) (by decide) (by decide) (by decide))
      refine c_build hD3 (d1.nx (by omega)) (v := va_up v6 12 (v6 12 + 1)) hS6.1 hS6.2.1 (by omega) (fun i i1 i2 iu => hS6.2.2.1 i (by omega) iu) (fun r8 v8 a8 c8 f1 f2 f3 f4 f5 f6 f7 f8 f9 f10 => ?_)
      have hS8 : bS v8 a8 T n c8 w := bS.built (v := va_up v6 12 (v6 12 + 1)) ⟨hS6.1, hS6.2.1, hS6.2.2.1, hS6.2.2.2.of (Nat.le_refl _) (Nat.le_refl _) rfl (fun _ _ => rfl)⟩ f2 f3 f4 f7 f8
      have nt8 : nt v8 a8 N := nt6.of (f7 11 (by decide) (by decide)) (f7 40 (by decide) (by decide)) (f8 28 (by decide) (by decide) (by decide) (by decide))
      refine kput _ _ _ _ _ _ _ _ c8 _ hS8 nt8 hp1 (b6.mono (by omega) (Nat.le_refl _)) (fun z => absurd z (by decide)) (fun _ => d6.mono (by omega) (Nat.le_refl _)) (fun _ => f6) (fun v9 a9 g1 g2 g3 g4 => ?_)
      have p1' : fr [11, 12, 37] v v6 := (o1.up (by decide)).trans (fun j hj => d7 j (nin hj (by decide)) (nin hj (by decide)))
      have p2' : fr nA a a6 := o2.trans (fun j hj => d8 j (nin hj (by decide)) (nin hj (by decide)) (nin hj (by decide)) (nin hj (by decide)))
      have p3' : fr [11, 12, 37] v v8 := (p1'.up (by decide)).trans (fun j hj => f7 j (nin hj (by decide)) (nin hj (by decide)))
      have p4' : fr nA a a8 := p2'.trans (fun j hj => f8 j (nin hj (by decide)) (nin hj (by decide)) (nin hj (by decide)) (nin hj (by decide)))
      exact k181 v9 a9 c8 (f1.of (g2 12 (by decide)) (g2 13 (by decide)) (g3 1 (by decide))) g1 (by omega) (by omega) (by omega) (p3'.trans (g2.sub (by decide))) (p4'.trans (g3.sub (by decide))) g4
    · -- two TERMS made the same
      have hD2 := gTm_gD hq2
      obtain ⟨l2, el2, hW'⟩ := gD_gW _ _ _ hD2
      have hW3 := hW'.1
      have hW4 := hW'.2.1
      refine ⟨fun _ => ⟨fun z => absurd (ea.trans h61) z, fun _ => ?_⟩, fun z => absurd (ea.symm.trans z) (by omega)⟩
      refine c_build hD2 (b1.nx (by omega)) (v := va_up v3 12 (v3 12 + 1)) hS3.1 hS3.2.1 (by omega) (fun i i1 i2 iu => hS3.2.2.1 i (by omega) iu) (fun r6 v6 a6 c6 d1 d2 d3 d4 d5 d6 d7 d8 d9 d10 => ?_)
      have hS6 : bS v6 a6 T n c6 w := bS.built (v := va_up v3 12 (v3 12 + 1)) ⟨hS3.1, hS3.2.1, hS3.2.2.1, hS3.2.2.2.of (Nat.le_refl _) (Nat.le_refl _) rfl (fun _ _ => rfl)⟩ d2 d3 d4 d7 d8
      have nt6 : nt v6 a6 N := nt3.of (d7 11 (by decide) (by decide)) (d7 40 (by decide) (by decide)) (d8 28 (by decide) (by decide) (by decide) (by decide))
      refine kput _ _ _ _ _ _ _ _ c6 _ hS6 nt6 hp1 (b6.mono (by omega) (Nat.le_refl _)) (fun z => absurd z (by decide)) (fun _ => d6) (fun z => absurd z (by decide)) (fun v9 a9 g1 g2 g3 g4 => ?_)
      have p1' : fr [11, 12, 37] v v6 := (o1.up (by decide)).trans (fun j hj => d7 j (nin hj (by decide)) (nin hj (by decide)))
      have p2' : fr nA a a6 := o2.trans (fun j hj => d8 j (nin hj (by decide)) (nin hj (by decide)) (nin hj (by decide)) (nin hj (by decide)))
      exact k181 v9 a9 c6 (d1.of (g2 12 (by decide)) (g2 13 (by decide)) (g3 1 (by decide))) g1 (by omega) (by omega) (by omega) (p1'.trans (g2.sub (by decide))) (p2'.trans (g3.sub (by decide))) g4
    · -- a CALL
      have nU : ¬ isU T n p := fun z => by have := z.2; omega
      have x30 := b10 nU
      rcases h94 with ⟨h94, hdig, rfl⟩ | ⟨h94, rfl⟩
      · have hq1 : q + 1 < n := gC_lt (T := T) (by omega)
        refine ⟨fun _ => ⟨fun _ => ⟨fun z => absurd (ea.trans h94) z, fun _ => ⟨by have := b1.e1; omega, b1.b6, ?_⟩⟩, fun z => absurd (ea.symm.trans z) h61⟩, fun z => absurd (ea.symm.trans z) (by omega)⟩
        have ea1 := b1.at1
        have elv : (m_at v3 a3 (v3 12 + 1) - 48).toInt = gC T n (q + 1) - 48 := i32_sub (by rw [ea1, show ((48 : Int32)).toInt = 48 from by decide]) (by omega) (by omega)
        refine kput _ _ _ _ _ _ _ _ c3 _ hS3 nt3 ⟨by omega, by omega⟩ b6 (fun _ => x30) (fun z => absurd (by decide) z) (fun z => absurd z (by decide)) (fun v9 a9 g1 g2 g3 g4 => ?_)
        have tv9 : tV v9 a9 T b n q := b1.of (g2 12 (by decide)) (g2 13 (by decide)) (g3 1 (by decide))
        refine k181 _ a9 c3 ⟨?_, tv9.2.1, by omega, tv9.2.2.2.1, tv9.2.2.2.2⟩ ⟨g1.1, g1.2.1, g1.2.2.1, g1.2.2.2.of (Nat.le_refl _) (Nat.le_refl _) rfl (fun _ _ => rfl)⟩ (by omega) (by omega) (by omega) ((o1.trans (g2.sub (by decide))).up (by decide)) (o2.trans (g3.sub (by decide))) (g4.of rfl rfl rfl)
        show (v9 12 + 2).toInt = _
        have := tv9.1
        exact i32_add (by rw [this, show ((2 : Int32)).toInt = 2 from by decide]; omega) (by omega) (by omega)
      · have hx : gC T n q' ≠ 35 := by
          rcases htail with ⟨z, -⟩ | ⟨-, z, -⟩
          · omega
          · intro y
            have := gC_lt (T := T) (n := n) (p := q') (by omega)
            omega
        refine ⟨fun _ => ⟨fun _ => ⟨fun _ => ?_, fun z => absurd (ea.symm.trans z) h94⟩, fun z => absurd (ea.symm.trans z) h61⟩, fun z => absurd (ea.symm.trans z) hx⟩
        refine kput _ _ _ _ _ _ _ _ c3 _ hS3 nt3 hp1 b6 (fun _ => x30) (fun z => absurd (by decide) z) (fun z => absurd z (by decide)) (fun v9 a9 g1 g2 g3 g4 => ?_)
        exact k181 v9 a9 c3 (b1.of (g2 12 (by decide)) (g2 13 (by decide)) (g3 1 (by decide))) g1 (by omega) (by omega) (by omega) (o1.trans (g2.sub (by decide))) (o2.trans (g3.sub (by decide))) g4
end BG
section AK
variable {K : Int32 → (Nat → Int32) → (Nat → Nat → Int32) → Prop}
/-- question := map -/
theorem c_ask185s {p1 p2 : Int32} {T : Nat → Int32} {n N c w : Nat} (hn : n ≤ 48) (hw : w ≤ 26) (hQ : gQ T n 0 = some N) {v : Nat → Int32} {a0 : Nat → Nat → Int32} (tv : tV v a0 T 576 n 0) (hb : bS v a0 T n c w) (hc0 : c = 0) (h38 : (v 38).toInt = (w : Int)) (hmp : mp a0 c w) (hnt : nt v a0 N)
    (hK : ∀ r v1 a1 c1, gr a1 c1 w → (v1 37).toInt = (c1 : Int) → c1 ≤ 49 → gi v1 a1 c1 w (fun _ => False) 0 → (∀ u, u < 26 → (a1 6 u).toInt = 2147483647 ∨ rf c1 w (a1 6 u)) → fr [11, 12, 37] v v1 → fr (6 :: nA) a0 a1 → (v1 11).toInt = 0 → r.toInt = (N : Int) → K r v1 a1) : ∀ (k u : Nat) (p3 : Int32) (a : Nat → Nat → Int32), p3.toInt = (u : Int) → u + k = 26 → fr [6] a0 a → (∀ i, i < u → a 6 i = a0 5 i) → mT 5 sM_121 185 [(0, .ref 33), (1, .int p1), (2, .int p2), (3, .int p3)] [] v a K := by
  intro k
  induction k with
  | zero =>
    intro u p3 a h3 hu f1 f2
    refine r_121_185 ⟨fun _ => r_123_0 ?_, fun z => absurd z (by omega)⟩
    have hNb : N ≤ 49 := by
      have hNk : ∀ k p N, gGs T n k p = some N → N ≤ k := by
        intro k
        induction k with
        | zero => intro p N hx; cases hx
        | succ k ihk =>
          intro p N hx
          obtain ⟨q', -, hy⟩ := gGs_parts hx
          rcases hy with ⟨-, N1, hN1, e⟩ | ⟨-, -, e⟩
          · have := ihk _ _ hN1
            omega
          · omega
      have := hNk _ _ _ hQ
      omega
    refine c_bg2s (p1 := 1) (by decide) hn (by omega) (n - 0 + 1) 0 N c 0 v a (Or.inl hQ) (tv.of rfl rfl (f1 1 (by decide))) ⟨hb.1.of (f1 15 (by decide)) (f1 16 (by decide)) (f1 17 (by decide)), hb.2.1, fun i hi hu => by rw [f1 5 (by decide)]; exact hb.2.2.1 i hi hu, hb.2.2.2.of (Nat.le_refl _) (Nat.le_refl _) rfl (fun j hj => f1 j (fun y => by rw [List.mem_singleton] at y; omega))⟩ (by omega) (by decide) (by rw [show ((0 : Int32)).toInt = 0 from by decide]; omega) (hnt.of rfl rfl (f1 28 (by decide))) (fun r v1 a1 c1 q1 q2 q3 q4 q5 q6 q7 q8 q9 => ?_)
    refine hK r v1 a1 c1 q1 q2 (by omega) q5 (fun u hu => ?_) q6 ((f1.sub (by decide)).trans (q7.sub (by decide))) q8 (by rw [q9, show ((0 : Int32)).toInt = 0 from by decide]; omega)
    rw [q7 6 (by decide), f2 u (by omega)]
    exact (hmp u hu).imp id (fun y => y.mono q3 (Nat.le_refl _))
  | succ k ih =>
    intro u p3 a h3 hu f1 f2
    refine r_121_185 ⟨fun z => absurd z (by omega), fun _ => ⟨by omega, by omega, by omega, by omega, ?_⟩⟩
    rw [i32_cl h3]
    refine ih (u + 1) (p3 + 1) _ (by rw [i32_succ (by omega) (by omega)]; omega) (by omega) (f1.up (by decide)) (fun i hi => ?_)
    show upd (a 6) u (a 5 u) i = _
    by_cases e : i = u
    · subst e
      rw [ud_eq, f1 5 (by decide)]
    · rw [ud_ne e]
      exact f2 i (by omega)
/-- the map is made empty, VARIABLES come to be -/
theorem c_ask140s {p1 p2 : Int32} {T : Nat → Int32} {n N : Nat} (hn : n ≤ 48) (hp2 : p2.toInt = (n : Int)) (hQ : gQ T n 0 = some N) {v : Nat → Int32} {a0 : Nat → Nat → Int32} (h37 : (v 37).toInt = 0) (h38 : (v 38).toInt = 0) (h40 : (v 40).toInt = 0) (h11 : (v 11).toInt = 0)
    (hK : ∀ r v1 a1 c1 w1, w1 ≤ 26 → gr a1 c1 w1 → (v1 37).toInt = (c1 : Int) → (v1 38).toInt = (w1 : Int) → c1 ≤ 49 → gi v1 a1 c1 w1 (fun _ => False) 0 → (∀ u, u < 26 → (a1 6 u).toInt = 2147483647 ∨ rf c1 w1 (a1 6 u)) → fr [11, 12, 13, 37, 38] v v1 → fr aB a0 a1 → (v1 11).toInt = 0 → r.toInt = (N : Int) → K r v1 a1) : ∀ (k u : Nat) (p3 : Int32) (a : Nat → Nat → Int32), p3.toInt = (u : Int) → u + k = 26 → (∀ i, i < n → a 1 (576 + i) = T i) → (∀ g, g < 61 → (a 30 g).toInt = 0 ∧ (a 25 g).toInt = 0) → (∀ l, l < 4 → (a 28 l).toInt = 0) → (∀ i, i < u → (a 5 i).toInt = 2147483647) → fr [5] a0 a → mT 5 sM_121 140 [(0, .ref 33), (1, .int p1), (2, .int p2), (3, .int p3)] [] v a K := by
  intro k
  induction k with
  | zero =>
    intro u p3 a h3 hu fT fg fl f5 oA
    refine r_121_140 ⟨fun _ => ?_, fun z => absurd z (by omega)⟩
    have gr0 : gr a 0 0 := ⟨fun t ht => absurd ht (by omega), fun x hx => absurd hx (by omega)⟩
    have mp0 : mp a 0 0 := fun i hi => Or.inl (f5 i (by omega))
    have sz0 : ∀ l, l < 4 → sz a l = 0 := fun l hl => by
      unfold sz
      rw [fl l hl]
      rfl
    have sS0 : sS a = 0 := by
      unfold sS
      rw [sz0 0 (by decide), sz0 1 (by decide), sz0 2 (by decide), sz0 3 (by decide)]
    have cn0 : ∀ f : Nat → Int32, (∀ g, g < 61 → (f g).toInt = 0) → cn f 61 = 0 := by
      intro f hf
      have : ∀ k, k ≤ 61 → cn f k = 0 := by
        intro k
        induction k with
        | zero => intro _; rfl
        | succ k ihk =>
          intro hk
          rw [cn_s, ihk (by omega), if_pos (hf k (by omega))]
      exact this 61 (Nat.le_refl _)
    have gi0 : gi (va_up (va_up v 12 576) 13 (576 + p2)) a 0 0 (fun _ => False) 0 := by
      refine ⟨⟨fun l hl => by rw [fl l hl]; decide, fun l hl i hi => absurd hi (by rw [sz0 l hl]; omega), fun l l' hl hl' i i' hi hi' => absurd hi (by rw [sz0 l hl]; omega)⟩, ⟨0, h40, cn0 _ (fun g hg => (fg g hg).2), by rw [sS0]; exact cn0 _ (fun g hg => (fg g hg).1), by rw [sS0]; decide⟩, fun g hg => ?_, fun g hg q => absurd (fg g hg).1 q⟩
      rw [(fg g hg).2]
      exact ⟨by decide, by decide, fun y => absurd rfl y⟩
    have e13 : (576 + p2).toInt = ((576 + n : Nat) : Int) := i32_add (by rw [hp2, show ((576 : Int32)).toInt = 576 from by decide]; omega) (by omega) (by omega)
    refine c_bear (v := va_up (va_up v 12 576) 13 (576 + p2)) (T := T) (b := 576) (n := n) (c := 0) (w := 0) e13 (by omega) fT (by decide) (by decide) (by decide) gr0 h38 mp0 (fun v2 a2 w2 u1 u2 u3 u4 u5 u6 u7 u8 => ?_)
    have tv : tV v2 a2 T 576 n 0 := ⟨by rw [u7 12 (by decide)]; rfl, by rw [u7 13 (by decide)]; exact e13, by omega, by omega, by rw [u8 1 (by decide) (by decide)]; exact fT⟩
    have hN49 : N ≤ n - 0 + 1 := gGs_le _ _ _ hQ
    refine c_ask185s (c := 0) (w := w2) hn (by omega) hQ tv ⟨u3, by rw [u7 37 (by decide)]; exact h37, u6, gi0.of (Nat.le_refl _) (by omega) (u7 40 (by decide)) (fun j hj => u8 j (by omega) (by omega))⟩ rfl u4 u5 ⟨by rw [u7 11 (by decide)]; exact h11, fun z hz => by rw [u7 40 (by decide)] at hz; have hz' : (v 40).toInt = (z : Int) := hz; rw [h40] at hz'; rw [show sS a2 = sS a from by unfold sS sz; rw [u8 28 (by decide) (by decide)], sS0]; omega⟩ (fun r v3 a3 c3 q1 q2 q3 q4 q5 q6 q7 q8 q9 => ?_) 26 0 0 a2 (by decide) (by omega) fr.rfl' (fun i hi => absurd hi (by omega))
    refine hK r v3 a3 c3 w2 (by omega) q1 q2 (by rw [q6 38 (by decide)]; exact u4) q3 q4 q5 ?_ (((oA.sub (by decide)).trans (fun j hj => u8 j (nin hj (by decide)) (nin hj (by decide)))).trans (q7.sub (by decide))) q8 q9
    exact (((fr.rfl'.up (by decide)).up (by decide)).trans (fun j hj => u7 j (nin hj (by decide)))).trans (q6.sub (by decide))
  | succ k ih =>
    intro u p3 a h3 hu fT fg fl f5 oA
    refine r_121_140 ⟨fun z => absurd z (by omega), fun _ => ⟨by omega, by omega, ?_⟩⟩
    rw [i32_cl h3]
    refine ih (u + 1) (p3 + 1) _ (by rw [i32_succ (by omega) (by omega)]; omega) (by omega) fT fg fl (fun i hi => ?_) (oA.up (by decide))
    show (upd (a 5) u 2147483647 i).toInt = _
    by_cases e : i = u
    · subst e
      rw [ud_eq]
      decide
    · rw [ud_ne e]
      exact f5 i (by omega)
/-- the GOALS of the last QUESTION go -/
theorem c_ask103s {p1 p2 : Int32} {T : Nat → Int32} {n N : Nat} (hn : n ≤ 48) (hp2 : p2.toInt = (n : Int)) (hQ : gQ T n 0 = some N) {v : Nat → Int32} {a0 : Nat → Nat → Int32} (h37 : (v 37).toInt = 0) (h38 : (v 38).toInt = 0) (h40 : (v 40).toInt = 0) (h11 : (v 11).toInt = 0)
    (hK : ∀ r v1 a1 c1 w1, w1 ≤ 26 → gr a1 c1 w1 → (v1 37).toInt = (c1 : Int) → (v1 38).toInt = (w1 : Int) → c1 ≤ 49 → gi v1 a1 c1 w1 (fun _ => False) 0 → (∀ u, u < 26 → (a1 6 u).toInt = 2147483647 ∨ rf c1 w1 (a1 6 u)) → fr [11, 12, 13, 37, 38] v v1 → fr aB a0 a1 → (v1 11).toInt = 0 → r.toInt = (N : Int) → K r v1 a1) : ∀ (k u : Nat) (p3 : Int32) (a : Nat → Nat → Int32), p3.toInt = (u : Int) → u + k = 61 → (∀ i, i < n → a 1 (576 + i) = T i) → (∀ g, g < u → (a 30 g).toInt = 0 ∧ (a 25 g).toInt = 0) → (∀ l, l < 4 → l < u → (a 28 l).toInt = 0) → fr [25, 28, 30] a0 a → mT 5 sM_121 103 [(0, .ref 33), (1, .int p1), (2, .int p2), (3, .int p3)] [] v a K := by
  intro k
  induction k with
  | zero =>
    intro u p3 a h3 hu fT fg fl oA
    refine r_121_103 ⟨fun _ => ?_, fun z => absurd z (by omega)⟩
    exact c_ask140s (a0 := a) hn hp2 hQ h37 h38 h40 h11 (fun r v1 a1 c1 w1 q1 q2 q3 q4 q5 q6 q7 q8 q9 q10 q11 => hK r v1 a1 c1 w1 q1 q2 q3 q4 q5 q6 q7 q8 ((oA.sub (by decide)).trans q9) q10 q11) 26 0 0 a (by decide) (by omega) fT (fun g hg => fg g (by omega)) (fun l hl => fl l hl (by omega)) (fun i hi => absurd hi (by omega)) fr.rfl'
  | succ k ih =>
    intro u p3 a h3 hu fT fg fl oA
    have e4 := m_rem4 h3 (by omega)
    have hm : u % 4 < 4 := Nat.mod_lt _ (by decide)
    refine r_121_103 ⟨fun z => absurd z (by omega), fun _ => ⟨by omega, by omega, by omega, by omega, by omega, by omega, ?_⟩⟩
    rw [i32_cl h3, i32_cl e4]
    refine ih (u + 1) (p3 + 1) _ (by rw [i32_succ (by omega) (by omega)]; omega) (by omega) fT (fun g hg => ?_) (fun l hl hlu => ?_) (((oA.up (by decide)).up (by decide)).up (by decide))
    · show (upd (a 30) u 0 g).toInt = 0 ∧ (upd (a 25) u 0 g).toInt = 0
      by_cases e : g = u
      · subst e
        rw [ud_eq, ud_eq]
        decide
      · rw [ud_ne e, ud_ne e]
        exact fg g (by omega)
    · show (upd (a 28) (u % 4) 0 l).toInt = 0
      by_cases e : l = u % 4
      · subst e
        rw [ud_eq]
        decide
      · rw [ud_ne e]
        exact fl l hl (by omega)
/-- ask(), a QUESTION that can be read -/
theorem c_ask44s {p1 p2 : Int32} {n N : Nat} (hn : n ≤ 48) (hp2 : p2.toInt = (n : Int)) {v : Nat → Int32} {a0 : Nat → Nat → Int32} (hQ : gQ (a0 0) n 0 = some N) (h11 : (v 11).toInt = 0)
    (hK : ∀ r v1 a1 c1 w1, w1 ≤ 26 → gr a1 c1 w1 → (v1 37).toInt = (c1 : Int) → (v1 38).toInt = (w1 : Int) → c1 ≤ 49 → gi v1 a1 c1 w1 (fun _ => False) 0 → (∀ u, u < 26 → (a1 6 u).toInt = 2147483647 ∨ rf c1 w1 (a1 6 u)) → fr [11, 12, 13, 37, 38, 39, 40, 41, 42] v v1 → (v1 39).toInt = 0 → (v1 42).toInt = 1 → fr (1 :: aB) a0 a1 → (∀ y, y < 576 → a1 1 y = a0 1 y) → (v1 11).toInt = 0 → r.toInt = (N : Int) → K r v1 a1) : ∀ (k j : Nat) (p3 : Int32) (a : Nat → Nat → Int32), p3.toInt = (j : Int) → j + k = n → (∀ i, i < j → a 1 (576 + i) = a0 0 i) → (∀ y, y < 576 → a 1 y = a0 1 y) → fr [1] a0 a → mT 5 sM_121 44 [(0, .ref 33), (1, .int p1), (2, .int p2), (3, .int p3)] [] v a K := by
  intro k
  induction k with
  | zero =>
    intro j p3 a h3 hj fT fy oA
    refine r_121_44 ⟨fun _ => ?_, fun z => absurd z (by omega)⟩
    refine c_ask103s (T := a0 0) (a0 := a) (v := va_up (va_up (va_up (va_up (va_up (va_up v 41 0) 40 0) 39 0) 38 0) 37 0) 42 1) hn hp2 hQ rfl rfl rfl h11 (fun r v1 a1 c1 w1 q1 q2 q3 q4 q5 q6 q7 q8 q9 q10 q10' => hK r v1 a1 c1 w1 q1 q2 q3 q4 q5 q6 q7 ?_ ?_ ?_ ((oA.sub (by decide)).trans (q9.sub (by decide))) (fun y hy => by rw [q9 1 (by decide)]; exact fy y hy) q10 q10') 61 0 0 a (by decide) (by omega) (fun i hi => fT i (by omega)) (fun g hg => absurd hg (by omega)) (fun l hl h => absurd h (by omega)) fr.rfl'
    · exact ((((((fr.rfl'.up (by decide)).up (by decide)).up (by decide)).up (by decide)).up (by decide)).up (by decide)).trans (q8.sub (by decide))
    · rw [q8 39 (by decide)]
      rfl
    · rw [q8 42 (by decide)]
      rfl
  | succ k ih =>
    intro j p3 a h3 hj fT fy oA
    have e1 : (576 + p3).toInt = ((576 + j : Nat) : Int) := i32_add (by rw [h3, show ((576 : Int32)).toInt = 576 from by decide]; omega) (by omega) (by omega)
    refine r_121_44 ⟨fun z => absurd z (by omega), fun _ => ⟨by omega, by omega, by omega, by omega, ?_⟩⟩
    rw [i32_cl e1, i32_cl h3]
    refine ih (j + 1) (p3 + 1) _ (by rw [i32_succ (by omega) (by omega)]; omega) (by omega) (fun i hi => ?_) (fun y hy => ?_) (oA.up (by decide))
    · show upd (a 1) (576 + j) (a 0 j) (576 + i) = _
      by_cases e : i = j
      · subst e
        rw [ud_eq, oA 0 (by decide)]
      · rw [ud_ne (by omega)]
        exact fT i (by omega)
    · show upd (a 1) (576 + j) _ y = _
      rw [ud_ne (by omega)]
      exact fy y hy
/-- ask() -/
theorem c_ask2 {v : Nat → Int32} {a : Nat → Nat → Int32} {n : Nat} (hM : mI v a) (h7 : (v 7).toInt = (n : Int)) (hKF : gQ (a 0) n 0 = none → ∀ v1 a1, mI v1 a1 → (v1 7).toInt = 0 → v1 8 = v 8 → (v1 11).toInt = 1 → K 0 v1 a1) (hKT : ∀ N, gQ (a 0) n 0 = some N → ∀ r v1 a1, mI v1 a1 → (v1 7).toInt = 0 → v1 8 = v 8 → (v1 11).toInt = 0 → r.toInt = (N : Int) → K r v1 a1) : mT 5 sM_121 0 [(0, .ref 33)] [] v a K := by
  obtain ⟨m1, ⟨C, hC, h8, hct⟩, m3⟩ := id hM
  have hS : rS (va_up v 10 0) a (a 0) n 0 := ⟨h7, by show (0 : Int32).toInt = _; decide, by omega, by omega, rfl⟩
  refine r_121_0 (c_readGoals hS (fun v2 a2 o => ?_))
  obtain ⟨oV, oA⟩ := o.frV
  have oV' : fr [10] v v2 := (fr.rfl'.up (by decide)).trans oV
  have h72 : (v2 7).toInt = (n : Int) := by rw [oV' 7 (by decide)]; exact h7
  cases hq : gQ (a 0) n 0 with
  | none =>
    refine ⟨fun z => absurd (by decide) z, fun _ => ⟨fun _ => ⟨fun z => absurd (by decide) z, fun _ => hKF hq _ a2 ⟨⟨by show 0 ≤ (0 : Int32).toInt; decide, by show (0 : Int32).toInt ≤ 48; decide⟩, ⟨C, hC, by show (v2 8).toInt = _; rw [oV' 8 (by decide)]; exact h8, by intro ci hci; rw [oA 1 (by decide), oA 2 (by decide)]; exact hct ci hci⟩, ?_⟩ (by show (0 : Int32).toInt = 0; decide) (oV' 8 (by decide)) (by show (1 : Int32).toInt = 1; decide)⟩, fun z => absurd (by decide) z⟩⟩
    show (v2 42).toInt = 0 ∨ _
    rw [oV' 42 (by decide)]
    exact m3.imp id (fun q => q.keep ((((oV'.sub (by decide)).up (by decide)).up (by decide)).up (by decide)) (oA.sub (by decide)))
  | some N =>
    have h1 : ¬ (b2 (some N).isSome).toInt = 0 := show ¬ (1 : Int32).toInt = 0 by decide
    refine ⟨fun _ => ⟨fun z => absurd z h1, fun _ => ⟨fun _ => ?_, fun z => absurd z h1⟩⟩, fun z => absurd z h1⟩
    refine c_ask44s (a0 := a2) (v := va_up (va_up v2 7 0) 11 0) (by omega) h72 (by rw [oA 0 (by decide)]; exact hq) rfl (fun r v3 a3 c3 w3 q1 q2 q3 q4 q5 q6 q7 q8 q9 q10 q11 q12 q13 q14 => hKT N hq r v3 a3 ⟨?_, ⟨C, hC, ?_, ?_⟩, Or.inr ⟨c3, w3, q2, q3, q4, by omega, by omega, by omega, q6.slp, q7, fun _ => q6⟩⟩ ?_ ?_ q13 q14) n 0 0 a2 (by decide) (by omega) (fun i hi => absurd hi (by omega)) (fun _ _ => rfl) fr.rfl'
    · rw [q8 7 (by decide)]
      exact ⟨by show 0 ≤ (0 : Int32).toInt; decide, by show (0 : Int32).toInt ≤ 48; decide⟩
    · rw [q8 8 (by decide)]
      show (v2 8).toInt = _
      rw [oV' 8 (by decide)]
      exact h8
    · intro ci hci
      obtain ⟨T, n', k1, k2, k3, k4⟩ := hct ci hci
      refine ⟨T, n', k1, by rw [q11 2 (by decide), oA 2 (by decide)]; exact k2, fun i hi => ?_, k4⟩
      rw [q12 _ (by omega), oA 1 (by decide)]
      exact k3 i hi
    · rw [q8 7 (by decide)]
      show (0 : Int32).toInt = 0
      decide
    · rw [q8 8 (by decide)]
      exact oV' 8 (by decide)
end AK
