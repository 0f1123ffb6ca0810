/-! letter (a TERM is written out), sleeping, count -/
section LE
variable {v : Nat → Int32} {a : Nat → Nat → Int32} {K : Int32 → (Nat → Int32) → (Nat → Nat → Int32) → Prop}
/-- write(c): one character more, if there is room -/
theorem c_w1 {x : Int32} {W : Nat} (h44 : (v 44).toInt = (W : Int)) (hW : W ≤ 80) (hK : ∀ v1 a1 (W1 : Nat), (v1 44).toInt = (W1 : Int) → W ≤ W1 → W1 ≤ 80 → (W < 80 → W + 1 ≤ W1) → fr [44] v v1 → fr [35] a a1 → K 0 v1 a1) : mT 0 sM_156 0 [(0, .ref 33), (1, .int x)] [] v a K := by
  refine r_156_0 ⟨fun z => ⟨by omega, by omega, hK _ _ (W + 1) ?_ (by omega) (by omega) (fun _ => by omega) (fr.rfl'.up (by decide)) (fr.rfl'.up (by decide))⟩, fun z => hK v a W h44 (Nat.le_refl _) hW (fun y => by omega) fr.rfl' fr.rfl'⟩
  show (v 44 + 1).toInt = _
  rw [i32_succ (by omega) (by omega)]
  omega
theorem i64_lit {n : Nat} : True := trivial
theorem c_wn48 {p1 : Int32} {e2 : Int64} : ∀ (k : Nat) (e4 : Int64) (v : Nat → Int32) (a : Nat → Nat → Int32) (W : Nat), 0 ≤ e4.toInt → e4.toInt < (k : Int) → (v 44).toInt = (W : Int) → W ≤ 80 → (∀ v1 a1 (W1 : Nat), (v1 44).toInt = (W1 : Int) → W ≤ W1 → W1 ≤ 80 → (0 < e4.toInt → W < 80 → W + 1 ≤ W1) → fr [44] v v1 → fr [35] a a1 → K 0 v1 a1) → mT 1 sM_157 48 [(0, .ref 33), (1, .int p1), (2, .long e2), (4, .long e4)] [] v a K := by
  intro k
  induction k with
  | zero => intro e4 v a W h0 hk; omega
  | succ k ih =>
    intro e4 v a W h0 hk h44 hW hK
    have z0 : (0 : Int64).toInt = 0 := by decide
    have z10 : (10 : Int64).toInt = 10 := by decide
    refine r_157_48 ⟨fun z => ?_, fun z => ?_⟩
    · have z' : lg_cmp e4 0 ≤ 0 := Int32.le_iff_toInt_le.mpr z
      have := Int64.le_iff_toInt_le.mp ((lg_cmp_le e4 0).mp z')
      rw [z0] at this
      exact hK v a W h44 (Nat.le_refl _) hW (fun y => absurd y (by omega)) fr.rfl' fr.rfl'
    · have z' : 0 < lg_cmp e4 0 := Int32.lt_iff_toInt_lt.mpr z
      have hp := Int64.lt_iff_toInt_lt.mp ((lg_cmp_gt e4 0).mp z')
      rw [z0] at hp
      have ed : (m_ldv e4 10).toInt = e4.toInt / 10 := (lg_ldiv_nonneg h0 (by decide)).trans (by rw [z10])
      refine ⟨fun e => ?_, c_w1 h44 hW (fun v1 a1 W1 q1 q2 q3 q4 q5 q6 => ih _ v1 a1 W1 (by omega) (by omega) q1 q3 (fun v2 a2 W2 s1 s2 s3 s4 s5 s6 => hK v2 a2 W2 s1 (by omega) s3 (fun _ y => by have := q4 y; omega) (q5.trans s5) (q6.trans s6)))⟩
      rw [e, z0] at hp
      omega
theorem c_wn26 {p1 : Int32} {e2 : Int64} (h20 : 0 ≤ e2.toInt) (h2 : e2.toInt ≤ 2147483648) {W : Nat} (h44 : (v 44).toInt = (W : Int)) (hW : W ≤ 80) (hK : ∀ v1 a1 (W1 : Nat), (v1 44).toInt = (W1 : Int) → W ≤ W1 → W1 ≤ 80 → (W < 80 → W + 1 ≤ W1) → fr [44] v v1 → fr [35] a a1 → K 0 v1 a1) : ∀ (k : Nat) (e4 : Int64), 1 ≤ e4.toInt → e4.toInt ≤ 2147483648 → 2147483648 - e4.toInt < (k : Int) → mT 1 sM_157 26 [(0, .ref 33), (1, .int p1), (2, .long e2), (4, .long e4)] [] v a K := by
  intro k
  induction k with
  | zero => intro e4 h1 h3 h4; omega
  | succ k ih =>
    intro e4 h1 h3 h4
    have z0 : (0 : Int64).toInt = 0 := by decide
    have z9 : (9 : Int64).toInt = 9 := by decide
    have z10 : (10 : Int64).toInt = 10 := by decide
    have ed : (m_ldv e2 e4).toInt = e2.toInt / e4.toInt := lg_ldiv_nonneg h20 (by omega)
    refine r_157_26 ⟨fun e => ?_, fun _ => ?_, fun z => ?_⟩
    · rw [e, z0] at h1
      omega
    · exact c_wn48 2147483650 e4 v a W (by omega) (by omega) h44 hW (fun v1 a1 W1 q1 q2 q3 q4 q5 q6 => hK v1 a1 W1 q1 q2 q3 (q4 (by omega)) q5 q6)
    · have z' : 0 < lg_cmp (m_ldv e2 e4) 9 := Int32.lt_iff_toInt_lt.mpr z
      have hp := Int64.lt_iff_toInt_lt.mp ((lg_cmp_gt (m_ldv e2 e4) 9).mp z')
      rw [z9, ed] at hp
      have hq : 10 * e4.toInt ≤ e2.toInt := by
        have := Int.mul_ediv_self_le (x := e2.toInt) (k := e4.toInt) (by omega)
        have h10 : (10 : Int) ≤ e2.toInt / e4.toInt := by omega
        have := Int.mul_le_mul_of_nonneg_left h10 (by omega : (0 : Int) ≤ e4.toInt)
        omega
      have em : (e4 * 10).toInt = e4.toInt * 10 := by
        rw [Int64.toInt_mul, z10]
        exact Int.bmod_eq_of_le (by omega) (by omega)
      exact ih (e4 * 10) (by omega) (by omega) (by omega)
theorem c_wn {p1 : Int32} {W : Nat} (h44 : (v 44).toInt = (W : Int)) (hW : W ≤ 80) (hK : ∀ v1 a1 (W1 : Nat), (v1 44).toInt = (W1 : Int) → W ≤ W1 → W1 ≤ 80 → (W < 80 → W + 1 ≤ W1) → fr [44] v v1 → fr [35] a a1 → K 0 v1 a1) : mT 1 sM_157 0 [(0, .ref 33), (1, .int p1)] [] v a K := by
  have b1 : -2147483648 ≤ p1.toInt := Int32.le_toInt p1
  have b2 : p1.toInt < 2147483648 := Int32.toInt_lt p1
  have z1 : (1 : Int64).toInt = 1 := by decide
  have ep : (Int32.toInt64 p1).toInt = p1.toInt := Int32.toInt_toInt64 p1
  have en : (-(Int32.toInt64 p1)).toInt = -p1.toInt := by
    rw [Int64.toInt_neg, ep]
    exact Int.bmod_eq_of_le (by omega) (by omega)
  refine r_157_0 ⟨fun h => ⟨fun _ => c_wn26 (by omega) (by omega) h44 hW hK 2147483650 1 (by decide) (by decide) (by rw [z1]; omega), fun z => absurd z (by omega)⟩, fun h => c_w1 h44 hW (fun v1 a1 W1 q1 q2 q3 q4 q5 q6 => ⟨fun z => absurd z (by omega), fun _ => ?_⟩)⟩
  exact c_wn26 (by omega) (by omega) q1 q3 (fun v2 a2 W2 s1 s2 s3 s4 s5 s6 => hK v2 a2 W2 s1 (by omega) s3 (fun y => by have := q4 y; omega) (q5.trans s5) (q6.trans s6)) 2147483650 1 (by decide) (by decide) (by rw [z1]; omega)
/-- what waits on the pile -/
def pS (a : Nat → Nat → Int32) (c w m : Nat) : Prop := ∀ i, i < m → 100000 ≤ (a 36 i).toInt ∨ rf c w (a 36 i)
theorem c_wt {c w : Nat} {a0 : Nat → Nat → Int32} (hg : gr a0 c w) (hc : c ≤ 26000) (hw : w ≤ 12000) {p1 : Int32} : ∀ (k m W : Nat) (p2 : Int32) (v : Nat → Int32) (a : Nat → Nat → Int32), W + k = 80 → p2.toInt = (m : Int) → (v 44).toInt = (W : Int) → m ≤ 1 + 5 * W → pS a c w m → fr [35, 36] a0 a → (∀ v1 a1 (W1 : Nat), (v1 44).toInt = (W1 : Int) → W1 ≤ 80 → fr [44] v v1 → fr [35, 36] a0 a1 → K 0 v1 a1) → mT 2 sM_155 14 [(0, .ref 33), (1, .int p1), (2, .int p2)] [] v a K := by
  intro k
  induction k using Nat.strongRecOn with
  | ind k ih =>
    intro m W p2 v a hk h2 h44 hm hp o hK
    refine r_155_14 ⟨fun _ => hK v a W h44 (by omega) fr.rfl' o, fun hpos => ⟨fun _ => hK v a W h44 (by omega) fr.rfl' o, fun hlt => ?_⟩⟩
    obtain ⟨m, rfl⟩ : ∃ m', m = m' + 1 := ⟨m - 1, by omega⟩
    have ga : gr a c w := hg.of (o 15 (by decide)) (o 16 (by decide)) (o 17 (by decide))
    obtain ⟨y2, hy2, e2⟩ : ∃ y : Int32, y = p2 + (-1) ∧ y.toInt = (m : Int) := by
      have o1 : p2.toInt - 1 = (m : Int) := by omega
      exact ⟨_, rfl, (i32_pred (by omega) (by omega)).trans o1⟩
    rw [← hy2]
    clear hy2
    rw [i32_cl e2]
    have hpm := hp m (by omega)
    have hp' : pS a c w m := fun i hi => hp i (by omega)
    -- on with the loop
    have loop : ∀ (v1 : Nat → Int32) (a1 : Nat → Nat → Int32) (W1 m1 : Nat) (q2 : Int32), q2.toInt = (m1 : Int) → (v1 44).toInt = (W1 : Int) → W + 1 ≤ W1 → W1 ≤ 80 → m1 ≤ 1 + 5 * W1 → pS a1 c w m1 → fr [44] v v1 → fr [35, 36] a0 a1 → mT 2 sM_155 14 [(0, .ref 33), (1, .int p1), (2, .int q2)] [] v1 a1 K := by
      intro v1 a1 W1 m1 q2 g1 g2 g3 g4 g5 g6 g7 g8
      exact ih (80 - W1) (by omega) m1 W1 q2 v1 a1 (by omega) g1 g2 g5 g6 g8 (fun v2 a2 W2 s1 s2 s3 s4 => hK v2 a2 W2 s1 s2 (g7.trans s3) s4)
    -- behind the TERM's own signs
    have k104 : ∀ (x : Int32) (v1 : Nat → Int32) (a1 : Nat → Nat → Int32) (W1 : Nat), rf c w x → (v1 44).toInt = (W1 : Int) → W + 1 ≤ W1 → W1 ≤ 80 → fr [44] v v1 → fr [35] a a1 → mT 2 sM_155 104 [(0, .ref 33), (1, .int p1), (2, .int y2), (3, .int x)] [] v1 a1 K := by
      intro x v1 a1 W1 hx g2 g3 g4 g7 g8
      have pa1 : pS a1 c w m := fun i hi => by rw [g8 36 (by decide)]; exact hp' i hi
      have oa1 : fr [35, 36] a0 a1 := o.trans (g8.sub (by decide))
      have stop : mT 2 sM_155 14 [(0, .ref 33), (1, .int p1), (2, .int y2)] [] v1 a1 K := loop v1 a1 W1 m y2 e2 g2 g3 g4 (by omega) pa1 g7 oa1
      refine r_155_104 ⟨fun _ => stop, fun hx0 => ?_⟩
      have hx2 := hx.2
      obtain ⟨X, eX⟩ : ∃ X : Nat, x.toInt = (X : Int) := ⟨x.toInt.toNat, by omega⟩
      have e15 : a1 15 = a0 15 := oa1 15 (by decide)
      obtain ⟨c1, c2, c3⟩ := hg.1 X (by omega)
      refine ⟨hx0, by omega, fun hz => c_w1 g2 g4 (fun v4 a4 W4 s1 s2 s3 s4 s5 s6 => ?_), fun _ => stop⟩
      have e15' : a4 15 = a0 15 := (s6 15 (by decide)).trans e15
      have e16' : a4 16 = a0 16 := (s6 16 (by decide)).trans (oa1 16 (by decide))
      rw [i32_cl eX, e15] at hz
      rw [i32_cl eX, i32_cl e2, e15']
      refine ⟨by omega, by omega, hx0, by omega, ?_⟩
      have e2' : (y2 + 1).toInt = ((m + 1 : Nat) : Int) := by
        rw [i32_succ (by omega) (by omega)]
        omega
      obtain ⟨J, eJ⟩ : ∃ J : Nat, (a0 15 X).toInt = (J : Int) := ⟨(a0 15 X).toInt.toNat, by omega⟩
      have e4 : (a0 15 X - 1).toInt = (J : Int) - 1 := i32_sub (by rw [eJ, show ((1 : Int32)).toInt = 1 from by decide]) (by omega) (by omega)
      have oV : fr [44] v v4 := g7.trans s5
      have t3 : ((3 : Int32)).toInt = 3 := by decide
      have emX : (x * 3).toInt = (X : Int) * 3 := i32_mul (by rw [eX, t3]) (by omega) (by omega)
      -- the ARGUMENTS, from the last
      have push : ∀ (j m5 : Nat) (q2 q4 : Int32) (a5 : Nat → Nat → Int32), j ≤ J → q4.toInt = (j : Int) - 1 → q2.toInt = (m5 : Int) → m5 + 2 * j ≤ m + 7 → (1 ≤ j → m5 + 2 * j ≤ 1 + m + 2 * J) → (j = 0 → m5 ≤ m + 2 * J) → pS a5 c w m5 → fr [35, 36] a0 a5 → mT 2 sM_155 148 [(0, .ref 33), (1, .int p1), (2, .int q2), (3, .int x), (4, .int q4)] [] v4 a5 K := by
        intro j
        induction j with
        | zero =>
          intro m5 q2 q4 a5 hj h4 h25 hb hb1 hb2 hp5 o5
          refine r_155_148 ⟨fun _ => loop v4 a5 W4 m5 q2 h25 s1 (by omega) s3 (by have := hb2 rfl; omega) hp5 oV o5, fun z => absurd z (by omega)⟩
        | succ j ihj =>
          intro m5 q2 q4 a5 hj h4 h25 hb hb1 hb2 hp5 o5
          have e16 : a5 16 = a0 16 := o5 16 (by decide)
          have ei : (x * 3 + q4).toInt = ((X * 3 + j : Nat) : Int) := i32_add (by rw [emX, h4]; omega) (by omega) (by omega)
          have hr := c3 j (by omega)
          have eq1 : (q2 + 1).toInt = ((m5 + 1 : Nat) : Int) := by
            rw [i32_succ (by omega) (by omega)]
            omega
          have eq2 : (q2 + 1 + 1).toInt = ((m5 + 2 : Nat) : Int) := by
            rw [i32_succ (by omega) (by omega)]
            omega
          have o1 : q4.toInt - 1 = (j : Int) - 1 := by omega
          have e4' : True → (q4 + (-1)).toInt = (j : Int) - 1 := fun _ => (i32_pred (by omega) (by omega)).trans o1
          refine r_155_148 ⟨fun z => absurd z (by omega), fun _ => ⟨by omega, by omega, by omega, by omega, fun hz => ⟨by omega, by omega, ?_⟩, fun hz => ?_⟩⟩
          · rw [i32_cl ei, i32_cl h25, i32_cl eq1, e16]
            refine ihj (m5 + 2) (q2 + 1 + 1) (q4 + (-1)) _ (by omega) (e4' trivial) eq2 (by omega) (fun _ => by have := hb1 (by omega); omega) (fun y => absurd y (by omega)) (fun i hi => ?_) ((o5.up (by decide)).up (by decide))
            show 100000 ≤ (upd (upd (a5 36) m5 (a0 16 (X * 3 + j))) (m5 + 1) 100044 i).toInt ∨ rf c w (upd (upd (a5 36) m5 (a0 16 (X * 3 + j))) (m5 + 1) 100044 i)
            by_cases f1 : i = m5 + 1
            · subst f1
              rw [ud_eq]
              exact Or.inl (by decide)
            · rw [ud_ne f1]
              by_cases f2 : i = m5
              · subst f2
                rw [ud_eq]
                exact Or.inr hr
              · rw [ud_ne f2]
                exact hp5 i (by omega)
          · rw [i32_cl ei, i32_cl h25, e16]
            have j0 : j = 0 := by omega
            refine ihj (m5 + 1) (q2 + 1) (q4 + (-1)) _ (by omega) (e4' trivial) eq1 (by omega) (fun y => absurd y (by omega)) (fun _ => by have := hb1 (by omega); omega) (fun i hi => ?_) (o5.up (by decide))
            show 100000 ≤ (upd (a5 36) m5 (a0 16 (X * 3 + j)) i).toInt ∨ rf c w (upd (a5 36) m5 (a0 16 (X * 3 + j)) i)
            by_cases f2 : i = m5
            · subst f2
              rw [ud_eq]
              exact Or.inr hr
            · rw [ud_ne f2]
              exact hp5 i (by omega)
      refine push J (m + 1) (y2 + 1) _ _ (Nat.le_refl _) e4 e2' (by omega) (fun _ => by omega) (fun y => by omega) (fun i hi => ?_) ((oa1.trans (s6.sub (by decide))).up (by decide))
      show 100000 ≤ (upd (a4 36) m 100041 i).toInt ∨ rf c w (upd (a4 36) m 100041 i)
      by_cases f2 : i = m
      · subst f2
        rw [ud_eq]
        exact Or.inl (by decide)
      · rw [ud_ne f2, s6 36 (by decide)]
        exact pa1 i (by omega)
    refine ⟨by omega, by omega, fun hsmall => ?_, fun hbig => ?_⟩
    · have hr := hpm.resolve_left (by omega)
      have xr := vf_rf ga hr
      refine c_value ga hw hr ?_
      generalize vf (a 17) w (a 36 m) = x at *
      have x2 := xr.2
      have t3 : ((3 : Int32)).toInt = 3 := by decide
      have w1 : ∀ y : Int32, mT 0 sM_156 0 [(0, .ref 33), (1, .int y)] [] v a (fun _ v9 a9 => mT 2 sM_155 104 [(0, .ref 33), (1, .int p1), (2, .int y2), (3, .int x)] [] v9 a9 K) := fun y => c_w1 h44 (by omega) (fun v1 a1 W1 q1 q2 q3 q4 q5 q6 => k104 x v1 a1 W1 xr q1 (by have := q4 (by omega); omega) q3 q5 q6)
      refine ⟨fun hn => ⟨fun z => absurd z (by omega), fun _ => w1 95⟩, fun hn => ⟨hn, by omega, fun _ => ⟨fun _ => ⟨hn, by omega, w1 _⟩, fun z => absurd z (by omega)⟩, fun _ => ?_⟩⟩
      have em : (x * 3).toInt = x.toInt * 3 := i32_mul (by rw [t3]) (by omega) (by omega)
      exact ⟨by omega, by omega, c_wn h44 (by omega) (fun v1 a1 W1 q1 q2 q3 q4 q5 q6 => k104 x v1 a1 W1 xr q1 (by have := q4 (by omega); omega) q3 q5 q6)⟩
    · exact c_w1 h44 (by omega) (fun v1 a1 W1 q1 q2 q3 q4 q5 q6 => loop v1 a1 W1 m y2 e2 q1 (by have := q4 (by omega); omega) q3 (by omega) (fun i hi => by rw [q6 36 (by decide)]; exact hp' i hi) q5 (o.trans (q6.sub (by decide))))
/-- writeTerm(t) -/
theorem c_writeTerm {c w : Nat} (hg : gr a c w) (hc : c ≤ 26000) (hw : w ≤ 12000) {t : Int32} (ht : rf c w t) (hK : ∀ v1 a1 (W1 : Nat), (v1 44).toInt = (W1 : Int) → W1 ≤ 80 → fr [44] v v1 → fr [35, 36] a a1 → K 0 v1 a1) : mT 2 sM_155 0 [(0, .ref 33), (1, .int t)] [] v a K := by
  refine r_155_0 (c_wt hg hc hw 80 1 0 1 _ _ (by omega) (by decide) rfl (by omega) (fun i hi => ?_) (fr.rfl'.up (by decide)) (fun v1 a1 W1 q1 q2 q3 q4 => hK v1 a1 W1 q1 q2 ((fr.rfl'.up (by decide)).trans q3) q4))
  obtain rfl : i = 0 := by omega
  exact Or.inr ht
end LE
theorem mI.keep {v v1 : Nat → Int32} {a a1 : Nat → Nat → Int32} (hM : mI v a) (o1 : fr [11, 44] v v1) (o2 : fr [35, 36] a a1) : mI v1 a1 := by
  obtain ⟨m1, ⟨C, hC, h8, hct⟩, m3⟩ := hM
  refine ⟨by rw [o1 7 (by decide)]; exact m1, ⟨C, hC, by rw [o1 8 (by decide)]; exact h8, by intro ci hci; rw [o2 1 (by decide), o2 2 (by decide)]; exact hct ci hci⟩, ?_⟩
  rw [o1 42 (by decide)]
  refine m3.imp id (fun ⟨c, w, k1, k2, k3, k4, k5, k6, k7, k8, k9⟩ => ⟨c, w, k1.of (o2 15 (by decide)) (o2 16 (by decide)) (o2 17 (by decide)), by rw [o1 37 (by decide)]; exact k2, by rw [o1 38 (by decide)]; exact k3, by rw [o1 39 (by decide)]; exact k4, by rw [o1 39 (by decide)]; exact k5, by rw [o1 39 (by decide)]; exact k6, by intro g hg; rw [o2 25 (by decide)]; exact k7 g hg, by rw [o2 6 (by decide)]; exact k8, ?_⟩)
  rw [o1 42 (by decide)]
  intro z
  refine (k9 z).of (Nat.le_refl _) (Nat.le_refl _) (o1 40 (by decide)) (fun j hj => o2 j (fun y => ?_))
  have y' : j = 35 ∨ j = 36 := by simpa using y
  omega
/-- what the calls that only tell leave: the reference whole, text and CLAUSES as they were -/
def kO (v : Nat → Int32) (a : Nat → Nat → Int32) (v1 : Nat → Int32) (a1 : Nat → Nat → Int32) : Prop := mI v1 a1 ∧ fr [11, 44] v v1 ∧ fr [35, 36] a a1
section LC
variable {v : Nat → Int32} {a : Nat → Nat → Int32} {K : Int32 → (Nat → Int32) → (Nat → Nat → Int32) → Prop}
theorem c_letter {p1 p2 : Int32} (hM : mI v a) (hK : ∀ r v1 a1, kO v a v1 a1 → K r v1 a1) : mT 3 sM_154 0 [(0, .ref 33), (1, .int p1), (2, .int p2)] [] v a K := by
  have e0 : ∀ (r x : Int32), K r (va_up v 11 x) a := fun r x => hK r _ a ⟨hM.keep (fr.rfl'.up (by decide)) fr.rfl', fr.rfl'.up (by decide), fr.rfl'⟩
  refine r_154_0 ⟨fun h1 h2 => ⟨fun _ => e0 0 2, fun h42 => ⟨h1, by omega, fun hne => ⟨h1, by omega, ?_⟩, fun _ => e0 0 2⟩⟩, fun _ => e0 0 1⟩
  obtain ⟨c, w, k1, k2, k3, k4, k5, k6, k7, k8, k9⟩ := hM.2.2.resolve_left h42
  have hr := (k8 p1.toNatClampNeg (by show p1.toInt.toNat < 26; omega)).resolve_left hne
  refine c_writeTerm k1 (by omega) (by omega) hr (fun v1 a1 W1 q1 q2 q3 q4 => ?_)
  have e1 : ∀ (r x : Int32), K r (va_up v1 11 x) a1 := fun r x => hK r _ a1 ⟨hM.keep (((fr.rfl'.up (by decide)).trans (q3.sub (by decide))).up (by decide)) q4, ((fr.rfl'.up (by decide)).trans (q3.sub (by decide))).up (by decide), q4⟩
  have e2 : ∀ r : Int32, K r v1 a1 := fun r => hK r _ a1 ⟨hM.keep ((fr.rfl'.up (by decide)).trans (q3.sub (by decide))) q4, (fr.rfl'.up (by decide)).trans (q3.sub (by decide)), q4⟩
  have es : (v1 44 - 1).toInt = (W1 : Int) - 1 := i32_sub (by rw [q1, show ((1 : Int32)).toInt = 1 from by decide]) (by omega) (by omega)
  exact ⟨fun _ => ⟨fun g1 g2 => ⟨g1, by omega, e2 _⟩, fun _ => e1 0 2⟩, fun _ => e2 _⟩
theorem c_sl52 {p1 p2 : Int32} (hs : slp a) (hK : ∀ r, K r v a) : ∀ (k u : Nat) (p3 p4 : Int32), p4.toInt = (u : Int) → u + k = 61 → mT 1 sM_158 52 [(0, .ref 33), (1, .int p1), (2, .int p2), (3, .int p3), (4, .int p4)] [] v a K := by
  intro k
  induction k with
  | zero =>
    intro u p3 p4 h4 hu
    exact r_158_52 ⟨fun _ => hK _, fun z => absurd z (by omega)⟩
  | succ k ih =>
    intro u p3 p4 h4 hu
    have e4 : (p4 + 1).toInt = ((u + 1 : Nat) : Int) := by
      rw [i32_succ (by omega) (by omega)]
      omega
    exact r_158_52 ⟨fun z => absurd z (by omega), fun _ => ⟨fun _ => ih (u + 1) p3 (p4 + 1) e4 (by omega), fun _ => ⟨by omega, by omega, fun _ => ih (u + 1) p3 (p4 + 1) e4 (by omega), fun _ => c_sleepsOn h4 (by omega) (hs u (by omega)) (fun r _ => ⟨fun _ => ih (u + 1) p3 (p4 + 1) e4 (by omega), fun _ => ih (u + 1) (p3 + 1) (p4 + 1) e4 (by omega)⟩)⟩⟩⟩
theorem c_sleeping {p1 : Int32} (hM : mI v a) (hK : ∀ r v1 a1, kO v a v1 a1 → K r v1 a1) : mT 1 sM_158 0 [(0, .ref 33), (1, .int p1)] [] v a K := by
  have e0 : ∀ (r x : Int32), K r (va_up v 11 x) a := fun r x => hK r _ a ⟨hM.keep (fr.rfl'.up (by decide)) fr.rfl', fr.rfl'.up (by decide), fr.rfl'⟩
  refine r_158_0 ⟨fun h1 h2 => ⟨fun _ => e0 _ 0, fun h42 => ⟨h1, by omega, fun hne => ⟨h1, by omega, ?_⟩, fun _ => e0 _ 0⟩⟩, fun _ => e0 0 1⟩
  obtain ⟨c, w, k1, k2, k3, k4, k5, k6, k7, k8, k9⟩ := hM.2.2.resolve_left h42
  have hr := (k8 p1.toNatClampNeg (by show p1.toInt.toNat < 26; omega)).resolve_left hne
  exact c_value k1 (by omega) hr (c_sl52 k7 (fun r => e0 r 0) 61 0 _ 0 (by decide) (by omega))
theorem c_count {p1 : Int32} (hM : mI v a) (hK : ∀ r v1 a1, kO v a v1 a1 → K r v1 a1) : mT 1 sM_159 0 [(0, .ref 33), (1, .int p1)] [] v a K := by
  have e0 : ∀ r : Int32, K r (va_up v 11 0) a := fun r => hK r _ a ⟨hM.keep (fr.rfl'.up (by decide)) fr.rfl', fr.rfl'.up (by decide), fr.rfl'⟩
  have e10 : True → p1.toInt ≤ 13 → 9 < p1.toInt → (p1 - 10).toInt = p1.toInt - 10 := fun _ h1 h2 => i32_sub (by rw [show ((10 : Int32)).toInt = 10 from by decide]) (by omega) (by omega)
  refine r_159_0 ⟨fun _ => ⟨fun _ => ⟨fun _ => ⟨fun h1 h2 => ⟨fun _ => ⟨fun _ => ⟨fun _ => ⟨fun _ => ⟨fun _ => ⟨fun _ => ⟨fun _ => e0 _, fun _ => e0 _⟩, fun _ => e0 _⟩, fun _ => e0 _⟩, fun _ => e0 _⟩, fun _ => e0 _⟩, fun z => absurd z (by omega)⟩, fun _ => e0 _⟩, fun _ => ⟨fun h1 h2 => ⟨fun _ => ⟨fun _ => ⟨fun _ => ⟨fun _ => ⟨fun _ => ⟨fun _ => ⟨fun _ => e0 _, fun _ => e0 _⟩, fun _ => e0 _⟩, fun _ => e0 _⟩, fun _ => e0 _⟩, fun _ => e0 _⟩, fun z => ?_⟩, fun _ => e0 _⟩, fun _ => e0 _⟩⟩, fun _ => e0 _⟩, fun _ => e0 _⟩, fun _ => e0 _⟩
  have := e10 trivial h2 z
  exact ⟨by omega, by omega, e0 _⟩
end LC
