/-! reckon, call, step: one STEP -/
/-- the CLAUSES' texts -/
def ct (a : Nat → Nat → Int32) (C : Nat) : Prop := ∀ ci, ci < C → ∃ (T : Nat → Int32) (n : Nat), n ≤ 48 ∧ (a 2 ci).toInt = (n : Int) ∧ (∀ i, i < n → a 1 (ci * 48 + i) = T i) ∧ gCl T n = true
def slp (a : Nat → Nat → Int32) : Prop := ∀ g, g < 61 → 0 ≤ (a 25 g).toInt ∧ (a 25 g).toInt ≤ 14
/-- what a STEP may change -/
def lV : List Nat := [11, 12, 13, 37, 38, 40, 41, 43, 45, 46]
def lA : List Nat := [3, 5, 14, 15, 16, 17, 18, 19, 20, 21, 22, 23, 24, 25, 26, 27, 28, 29, 30, 31, 32, 33, 34]
/-- how a STEP ends -/
def sP (v : Nat → Int32) (a : Nat → Nat → Int32) (c w : Nat) (v1 : Nat → Int32) (a1 : Nat → Nat → Int32) : Prop := ∃ c1 w1, c ≤ c1 ∧ c1 ≤ c + 49 ∧ w ≤ w1 ∧ w1 ≤ w + 26 ∧ gr a1 c1 w1 ∧ (v1 37).toInt = (c1 : Int) ∧ (v1 38).toInt = (w1 : Int) ∧ slp a1 ∧ (gi v1 a1 c1 w1 (fun _ => False) 0 ∨ (v1 11).toInt ≠ 0) ∧ fr lV v v1 ∧ fr lA a a1
section ST
variable {v v1 : Nat → Int32} {a a1 : Nat → Nat → Int32} {c w : Nat} {K : Int32 → (Nat → Int32) → (Nat → Nat → Int32) → Prop}
theorem gi.slp {hd : Nat → Prop} {e : Nat} (h : gi v a c w hd e) : slp a := fun g hg => ⟨(h.2.2.1 g hg).1, (h.2.2.1 g hg).2.1⟩
theorem sP.of_gi {c1 w1 : Nat} (hc : c ≤ c1) (hc2 : c1 ≤ c + 49) (hw : w ≤ w1) (hw2 : w1 ≤ w + 26) (hg : gr a1 c1 w1) (h37 : (v1 37).toInt = (c1 : Int)) (h38 : (v1 38).toInt = (w1 : Int)) (h : gi v1 a1 c1 w1 (fun _ => False) 0) (o1 : fr lV v v1) (o2 : fr lA a a1) : sP v a c w v1 a1 := ⟨c1, w1, hc, hc2, hw, hw2, hg, h37, h38, h.slp, Or.inl h, o1, o2⟩
/-- reckon(g) of the GOAL in hand -/
theorem c_reckon {g : Int32} {i : Nat} (hgi : g.toInt = (i : Int)) (hi : i < 61) (hg : gr a c w) (hc : c + 60 ≤ 26000) (hw : w ≤ 12000) (h37 : (v 37).toInt = (c : Int)) (h38 : (v 38).toInt = (w : Int)) (h : gi v a c w (fun g => g = i) 1) (hu : (a 30 i).toInt ≠ 0) (hs : (a 25 i).toInt = 0) (h2 : (a 18 i).toInt = 2) (hK : ∀ v1 a1, sP v a c w v1 a1 → K 0 v1 a1) : mT 3 sM_150 0 [(0, .ref 33), (1, .int g)] [] v a K := by
  obtain ⟨f1, f2, f3, f4, f5⟩ := h.2.2.2 i hi hu
  have rR := f4 (by omega)
  have rT := f5 h2
  have X := vf_rf hg rR
  have Y := vf_rf hg rT
  refine r_150_0 ?_
  rw [i32_cl hgi]
  refine ⟨by omega, by omega, c_value hg hw rR ⟨by omega, by omega, c_value hg hw rT ⟨by omega, by omega, ?_⟩⟩⟩
  generalize vf (a 17) w (a 21 i) = x at *
  generalize vf (a 17) w (a 22 i) = y at *
  have X2 := X.2
  have Y2 := Y.2
  -- it sleeps
  have ksl : ∀ t : Int32, mT 0 sM_148 0 [(0, .ref 33), (1, .int t)] [] (va_up v 43 0) a (fun _ v8 a8 => mT 0 sM_149 0 [(0, .ref 33), (1, .int g)] [] v8 a8 (fun _ v9 a9 => K 0 v9 a9)) := by
    intro t
    refine c_find (m := 0) (v := va_up v 43 0) rfl (by decide) (fun v8 a8 m1 q1 q2 q3 q4 q5 => ?_)
    have q5' : fr [29] a a8 := fun j hj => q5 j (nin hj (by decide))
    have q4' : fr [43] v v8 := fun j hj => (q4 j (nin hj (by decide))).trans (va_ne (nin hj (by decide)))
    refine c_sleep hgi hi q3 q1 (by omega) (h.of (Nat.le_refl _) (Nat.le_refl _) (q4' 40 (by decide)) (fun j hj => q5 j (by omega))) (by rw [q5' 30 (by decide)]; exact hu) (by rw [q5' 25 (by decide)]; exact hs) (fun v9 a9 z1 z2 z3 => hK v9 a9 ?_)
    refine sP.of_gi (Nat.le_refl _) (by omega) (Nat.le_refl _) (by omega) (hg.of ((z3 15 (by decide)).trans (q5' 15 (by decide))) ((z3 16 (by decide)).trans (q5' 16 (by decide))) ((z3 17 (by decide)).trans (q5' 17 (by decide)))) ?_ ?_ z1 ((q4'.sub (by decide)).trans (z2.sub (by decide))) ((q5'.sub (by decide)).trans (z3.sub (by decide)))
    · rw [z2 37 (by decide), q4' 37 (by decide)]
      exact h37
    · rw [z2 38 (by decide), q4' 38 (by decide)]
      exact h38
  have hcl := h.clear hi hu hs
  -- it fails
  have kf : K 0 (va_up (va_up v 43 0) 11 3) (va_up a 30 (upd (a 30) i 0)) := by
    refine hK _ _ (sP.of_gi (Nat.le_refl _) (by omega) (Nat.le_refl _) (by omega) (hg.of rfl rfl rfl) h37 h38 (hcl.of (Nat.le_refl _) (Nat.le_refl _) rfl (fun _ _ => rfl)) ((fr.rfl'.up (by decide)).up (by decide)) (fr.rfl'.up (by decide)))
  refine ⟨fun hx => ⟨fun z => absurd z (by omega), fun _ => ksl x⟩, fun hx => ⟨fun hy => ⟨by omega, by omega, fun z => absurd z (by omega), fun _ => ⟨hx, by omega, fun _ => kf, fun _ => ⟨fun z => absurd z (by omega), fun _ => ⟨hy, by omega, fun _ => kf, fun _ => ?_⟩⟩⟩⟩, fun hy => ⟨fun _ => ksl y, fun z => absurd z (by omega)⟩⟩⟩
  have t3 : ((3 : Int32)).toInt = 3 := by decide
  have m1 : (x * 3).toInt = x.toInt * 3 := i32_mul (by rw [t3]) (by omega) (by omega)
  have m2 : (y * 3).toInt = y.toInt * 3 := i32_mul (by rw [t3]) (by omega) (by omega)
  have es : (v 37 + 1 - 1).toInt = (c : Int) := (i32_ss (by omega) (by omega)).trans h37
  have em : ((v 37 + 1 - 1) * 3).toInt = ((c * 3 : Nat) : Int) := i32_mul (by rw [es, t3]; omega) (by omega) (by omega)
  -- the number comes to be, and is made the same
  have ks : ∀ q : Int32, 0 ≤ (v 37).toInt ∧ (v 37).toInt < 26000 ∧ 0 ≤ (v 37).toInt ∧ (v 37).toInt < 26000 ∧ 0 ≤ ((v 37 + 1 - 1) * 3).toInt ∧ ((v 37 + 1 - 1) * 3).toInt < 78000 ∧ mT 2 sM_151 0 [(0, .ref 33), (1, .int (a 20 i)), (2, .int (v 37 + 1 - 1))] [] (va_up (va_up v 43 0) 37 (v 37 + 1)) (va_up (va_up (va_up (va_up a 30 (upd (a 30) i 0)) 14 (upd (a 14) (v 37).toNatClampNeg 0)) 15 (upd (a 15) (v 37).toNatClampNeg 0)) 16 (upd (a 16) ((v 37 + 1 - 1) * 3).toNatClampNeg q)) (fun r v36 a36 => K 0 (va_up v36 11 r) a36) := by
    intro q
    rw [i32_cl h37, i32_cl em]
    refine ⟨by omega, by omega, by omega, by omega, by omega, by omega, ?_⟩
    have hg' : gr (va_up (va_up (va_up (va_up a 30 (upd (a 30) i 0)) 14 (upd (a 14) c 0)) 15 (upd (a 15) c 0)) 16 (upd (a 16) (c * 3) q)) (c + 1) w := g_new hg (fun t ht => ud_ne (by omega)) (by show (upd (a 15) c 0 c).toInt = 0; rw [ud_eq]; decide) (fun j hj => ud_ne (by omega)) rfl
    refine c_same (v := va_up (va_up v 43 0) 37 (v 37 + 1)) (x := a 20 i) (y := v 37 + 1 - 1) hg' (by omega) hw (hcl.of (by omega) (Nat.le_refl _) rfl (fun j hj => (va_ne (by omega)).trans ((va_ne (by omega)).trans (va_ne (by omega))))) (f2.mono (by omega) (Nat.le_refl _)) ⟨by omega, by omega⟩ (fun r v1 a1 z1 z2 z3 z4 => hK _ a1 ?_)
    refine sP.of_gi (c1 := c + 1) (w1 := w) (by omega) (by omega) (Nat.le_refl _) (by omega) z1 ?_ ?_ (z2.of (Nat.le_refl _) (Nat.le_refl _) rfl (fun _ _ => rfl)) ((((fr.rfl'.up (by decide)).up (by decide)).trans (z3.sub (by decide))).up (by decide)) (((((fr.rfl'.up (by decide)).up (by decide)).up (by decide)).up (by decide)).trans (z4.sub (by decide)))
    · show (v1 37).toInt = _
      rw [z3 37 (by decide)]
      show (v 37 + 1).toInt = _
      rw [i32_succ (by omega) (by omega)]
      omega
    · show (v1 38).toInt = _
      rw [z3 38 (by decide)]
      exact h38
  exact ⟨by omega, by omega, by omega, by omega, by omega, by omega, fun _ => ⟨fun _ => ks _, fun _ => ks _⟩, fun _ => ks _⟩
/-- call(g): its loop over the CLAUSES -/
theorem c_call18 {g call : Int32} {i X C : Nat} (hgi : g.toInt = (i : Int)) (hi : i < 61) (hc : c + 60 ≤ 25990) (hw : w + 27 ≤ 12000) (hC : C ≤ 12) (hX : call.toInt = (X : Int)) (hXc : X < c) : ∀ (k ci m : Nat) (p3 : Int32) (v : Nat → Int32) (a : Nat → Nat → Int32), p3.toInt = (ci : Int) → ci + k = C → (v 8).toInt = (C : Int) → ct a C → gr a c w → (v 37).toInt = (c : Int) → (v 38).toInt = (w : Int) → (v 43).toInt = (m : Int) → m ≤ ci → gi v a c w (fun g => g = i) 1 → (a 30 i).toInt ≠ 0 → (a 25 i).toInt = 0 → (∀ v1 a1, sP v a c w v1 a1 → K 0 v1 a1) → mT 6 sM_135 18 [(0, .ref 33), (1, .int g), (2, .int call), (3, .int p3)] [] v a K := by
  intro k
  induction k with
  | zero =>
    intro ci m p3 v a h3 hk h8 hct hg h37 h38 h43 hm h hu hs hK
    refine r_135_18 ⟨fun _ => ⟨fun _ => ?_, fun z => ?_⟩, fun z => absurd z (by omega)⟩
    · exact hK _ a ⟨c, w, Nat.le_refl _, by omega, Nat.le_refl _, by omega, hg, h37, h38, h.slp, Or.inr (by show (3 : Int32).toInt ≠ 0; decide), fr.rfl'.up (by decide), fr.rfl'⟩
    · refine c_sleep hgi hi h43 (by omega) (by omega) h hu hs (fun v9 a9 z1 z2 z3 => hK v9 a9 ?_)
      refine sP.of_gi (Nat.le_refl _) (by omega) (Nat.le_refl _) (by omega) (hg.of (z3 15 (by decide)) (z3 16 (by decide)) (z3 17 (by decide))) (by rw [z2 37 (by decide)]; exact h37) (by rw [z2 38 (by decide)]; exact h38) z1 (z2.sub (by decide)) (z3.sub (by decide))
  | succ k ih =>
    intro ci m p3 v a h3 hk h8 hct hg h37 h38 h43 hm h hu hs hK
    obtain ⟨T, n, hn, hn2, hT, hcl⟩ := hct ci (by omega)
    obtain ⟨q0, hq0, hlow, -⟩ := gCl_parts hcl
    obtain ⟨kk, har⟩ := gD_ar (gTm_gD hq0) hlow
    have e3 : (p3 + 1).toInt = ((ci + 1 : Nat) : Int) := by
      rw [i32_succ (by omega) (by omega)]
      omega
    refine r_135_18 ⟨fun z => absurd z (by omega), fun _ => ?_⟩
    refine c_fits h3 (by omega) hX (by omega) hn2 hn hT har (fun r4 hr4 => ⟨fun z => ?_, fun _ => ih (ci + 1) m (p3 + 1) v a e3 (by omega) h8 hct hg h37 h38 h43 (by omega) h hu hs hK⟩)
    refine c_tried h3 (by omega) hn hn2 hT hcl (by omega) (by omega) hg h37 hX hXc (hr4 z) har (fun r6 v6 a6 s1 o1 r1 t1 => ?_)
    have oV : fr lV v v6 := fun j hj => o1.1 j (nin hj (by decide)) (nin hj (by decide)) (nin hj (by decide)) (nin hj (by decide)) (nin hj (by decide))
    have oA : fr lA a a6 := fun j hj => o1.2.1 j (nin hj (by decide)) (nin hj (by decide)) (nin hj (by decide)) (nin hj (by decide)) (nin hj (by decide)) (nin hj (by decide)) (nin hj (by decide)) (nin hj (by decide)) (nin hj (by decide))
    have eV : ∀ j, j = 8 ∨ j = 38 ∨ j = 40 ∨ j = 43 → v6 j = v j := fun j hj => o1.1 j (by omega) (by omega) (by omega) (by omega) (by omega)
    have eA : ∀ j, j = 1 ∨ j = 2 ∨ j = 17 ∨ (18 ≤ j ∧ j ≤ 30) → a6 j = a j := fun j hj => o1.2.1 j (by omega) (by omega) (by omega) (by omega) (by omega) (by omega) (by omega) (by omega) (by omega)
    have h6 : gi v6 a6 c w (fun g => g = i) 1 := h.of (Nat.le_refl _) (Nat.le_refl _) (eV 40 (by decide)) (fun j hj => eA j (by omega))
    have hu6 : (a6 30 i).toInt ≠ 0 := by rw [eA 30 (by decide)]; exact hu
    have hs6 : (a6 25 i).toInt = 0 := by rw [eA 25 (by decide)]; exact hs
    have ct6 : ct a6 C := by
      intro ci' h'
      rw [eA 1 (by decide), eA 2 (by decide)]
      exact hct ci' h'
    have h86 : (v6 8).toInt = (C : Int) := by rw [eV 8 (by decide)]; exact h8
    have h386 : (v6 38).toInt = (w : Int) := by rw [eV 38 (by decide)]; exact h38
    have h436 : (v6 43).toInt = (m : Int) := by rw [eV 43 (by decide)]; exact h43
    have sub : ∀ v1 a1, sP v6 a6 c w v1 a1 → sP v a c w v1 a1 := by
      intro v1 a1 ⟨c1, w1, k1, k2, k3, k4, k5, k6, k7, k8, k9, k10, k11⟩
      exact ⟨c1, w1, k1, k2, k3, k4, k5, k6, k7, k8, k9, oV.trans k10, oA.trans k11⟩
    have next : mT 6 sM_135 18 [(0, .ref 33), (1, .int g), (2, .int call), (3, .int (p3 + 1))] [] v6 a6 K := ih (ci + 1) m (p3 + 1) v6 a6 e3 (by omega) h86 ct6 s1.1 s1.2.1 h386 h436 (by omega) h6 hu6 hs6 (fun v1 a1 q => hK v1 a1 (sub v1 a1 q))
    refine ⟨fun _ => ⟨fun hpos => ⟨fun hone => ⟨by omega, by omega, by omega, by omega, ?_⟩, fun _ => next⟩, fun hneg => ?_⟩, fun _ => ?_⟩
    · -- the CLAUSE is taken
      obtain ⟨q, tvq, hE⟩ := t1 hone
      rw [i32_cl hgi]
      have hcl6 := h6.clear hi hu6 hs6
      have hlev := (h6.2.2.2 i hi hu6).1
      have t48 : ((48 : Int32)).toInt = 48 := by decide
      have e48 : (p3 * 48).toInt = ((ci * 48 : Nat) : Int) := i32_mul (by rw [h3, t48]; omega) (by omega) (by omega)
      refine c_bear (v := v6) (a := va_up a6 30 (upd (a6 30) i 0)) (T := T) (b := ci * 48) (n := n) tvq.2.1 tvq.2.2.2.1 tvq.2.2.2.2 e48 hw (by omega) (s1.1.of rfl rfl rfl) h386 s1.2.2 (fun v7 a7 w7 u1 u2 u3 u4 u5 u6 u7 u8 => ?_)
      have oV7 : fr lV v v7 := oV.trans (fun j hj => u7 j (nin hj (by decide)))
      have oA7 : fr lA a a7 := (oA.up (by decide)).trans (fun j hj => u8 j (nin hj (by decide)) (nin hj (by decide)))
      have tv7 : tV v7 a7 T (ci * 48) n q := tvq.of (u7 12 (by decide)) (u7 13 (by decide)) (u8 1 (by decide) (by decide))
      have hqn : q ≤ n := by
        unfold gE at hE
        by_cases cc : gC T n q = 124
        · have := gC_lt (T := T) (n := n) (p := q) (by omega)
          omega
        · rw [if_neg cc] at hE
          have := of_decide_eq_true hE
          omega
      have hq1 : 1 ≤ q := by
        unfold gE at hE
        by_cases cc : gC T n q = 124
        · by_cases q0' : q = 0
          · subst q0'
            omega
          · omega
        · rw [if_neg cc] at hE
          have := of_decide_eq_true hE
          have := gC_lt (T := T) (n := n) (p := 0) (by omega)
          omega
      have hb7 : bS (va_up v7 12 (v7 12 + 1)) a7 T n c w7 := ⟨u3, by show (v7 37).toInt = _; rw [u7 37 (by decide)]; exact s1.2.1, u6, hcl6.of (Nat.le_refl _) u1 (u7 40 (by decide)) (fun j hj => u8 j (by omega) (by omega))⟩
      obtain ⟨kf, N, hN, hNb⟩ : ∃ kf N, (gGs T n kf (q + 1) = some N ∨ (q + 1 = n + 1 ∧ N = 0)) ∧ N ≤ 900 := by
        unfold gE at hE
        by_cases cc : gC T n q = 124
        · rw [if_pos cc] at hE
          unfold gQ at hE
          cases hz : gGs T n (n - (q + 1) + 1) (q + 1) with
          | none => rw [hz] at hE; cases hE
          | some N =>
            have hNk : ∀ k p N, gGs T n k p = some N → N ≤ k := by
              intro k
              induction k with
              | zero => intro p N hx; cases hx
              | succ k ihk =>
                intro p N hx
                obtain ⟨q', -, hy⟩ := gGs_parts hx
                rcases hy with ⟨-, N1, hN1, e⟩ | ⟨-, -, e⟩
                · have := ihk _ _ hN1
                  omega
                · omega
            have := hNk _ _ _ hz
            exact ⟨_, N, Or.inl hz, by omega⟩
        · rw [if_neg cc] at hE
          have := of_decide_eq_true hE
          exact ⟨0, 0, Or.inr ⟨by omega, rfl⟩, by omega⟩
      refine r_123_0 (c_bg2 hlev hn (by omega) kf (q + 1) N c 0 _ a7 hN (tv7.nx hqn) hb7 (by omega) (by decide) (by rw [show ((0 : Int32)).toInt = 0 from by decide]; omega) (fun r v8 a8 c8 x1 x2 x3 x4 x5 x6 x7 x8 => hK v8 a8 ?_))
      refine sP.of_gi x3 (by omega) u1 u2 x1 x2 ?_ x5 ((oV7.up (by decide)).trans (x6.sub (by decide))) (oA7.trans (x7.sub (by decide)))
      rw [x6 38 (by decide)]
      exact u4
    · -- it waits for something
      refine c_find h436 (by omega) (fun v8 a8 m1 q1 q2 q3 q4 q5 => ⟨fun z => absurd z (by omega), fun _ => ?_⟩)
      have q5' : fr [29] a6 a8 := fun j hj => q5 j (nin hj (by decide))
      have q4' : fr [43] v6 v8 := fun j hj => q4 j (nin hj (by decide))
      refine ih (ci + 1) m1 (p3 + 1) v8 a8 e3 (by omega) (by rw [q4' 8 (by decide)]; exact h86) (by intro ci' h'; rw [q5' 1 (by decide), q5' 2 (by decide)]; exact ct6 ci' h') (s1.1.of (q5' 15 (by decide)) (q5' 16 (by decide)) (q5' 17 (by decide))) (by rw [q4' 37 (by decide)]; exact s1.2.1) (by rw [q4' 38 (by decide)]; exact h386) q3 (by omega) (h6.of (Nat.le_refl _) (Nat.le_refl _) (q4' 40 (by decide)) (fun j hj => q5 j (by omega))) (by rw [q5' 30 (by decide)]; exact hu6) (by rw [q5' 25 (by decide)]; exact hs6) (fun v1 a1 ⟨c1, w1, k1, k2, k3, k4, k5, k6, k7, k8, k9, k10, k11⟩ => hK v1 a1 ⟨c1, w1, k1, k2, k3, k4, k5, k6, k7, k8, k9, (oV.trans (q4'.sub (by decide))).trans k10, (oA.trans (q5'.sub (by decide))).trans k11⟩)
    · exact hK _ a6 ⟨c, w, Nat.le_refl _, by omega, Nat.le_refl _, by omega, s1.1, s1.2.1, h386, h6.slp, Or.inr (by show (2 : Int32).toInt ≠ 0; decide), oV.up (by decide), oA⟩
theorem c_call {g : Int32} {i C : Nat} (hgi : g.toInt = (i : Int)) (hi : i < 61) (hc : c + 60 ≤ 25990) (hw : w + 27 ≤ 12000) (hC : C ≤ 12) (h8 : (v 8).toInt = (C : Int)) (hct : ct a C) (hg : gr a c w) (h37 : (v 37).toInt = (c : Int)) (h38 : (v 38).toInt = (w : Int)) (h : gi v a c w (fun g => g = i) 1) (hu : (a 30 i).toInt ≠ 0) (hs : (a 25 i).toInt = 0) (h0 : (a 18 i).toInt = 0) (hK : ∀ v1 a1, sP v a c w v1 a1 → K 0 v1 a1) : mT 6 sM_135 0 [(0, .ref 33), (1, .int g)] [] v a K := by
  obtain ⟨f1, f2, f3, f4, f5⟩ := h.2.2.2 i hi hu
  have hp := f3 h0
  have f22 := f2.2
  refine r_135_0 ?_
  rw [i32_cl hgi]
  refine ⟨by omega, by omega, c_value hg (by omega) f2 ?_⟩
  rw [vf_pos hp]
  obtain ⟨X, eX⟩ : ∃ X : Nat, (a 20 i).toInt = (X : Int) := ⟨(a 20 i).toInt.toNat, by omega⟩
  refine c_call18 hgi hi hc hw hC eX (by omega) C 0 0 0 _ a (by decide) (by omega) h8 hct hg h37 h38 rfl (Nat.le_refl _) (h.of (Nat.le_refl _) (Nat.le_refl _) rfl (fun _ _ => rfl)) hu hs (fun v1 a1 ⟨c1, w1, k1, k2, k3, k4, k5, k6, k7, k8, k9, k10, k11⟩ => hK v1 a1 ⟨c1, w1, k1, k2, k3, k4, k5, k6, k7, k8, k9, (fr.rfl'.up (by decide)).trans k10, k11⟩)
end ST
