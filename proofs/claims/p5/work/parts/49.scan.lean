/-! arity, fits, unmet: brackets and commas of a text counted; bear: VARIABLES come to be -/
section SC
variable {v : Nat → Int32} {a : Nat → Nat → Int32} {T : Nat → Int32} {b n : Nat} {K : Int32 → (Nat → Int32) → (Nat → Nat → Int32) → Prop}
theorem gB_le (p : Nat) : ∀ i, gB T n p i ≤ (i : Int) ∧ -(i : Int) ≤ gB T n p i := by
  intro i
  induction i with
  | zero => exact ⟨Int.le_refl _, Int.le_refl _⟩
  | succ i ih =>
    rw [gB_s]
    split
    · omega
    · split <;> omega
theorem gM_le (p : Nat) (h : Int) : ∀ i, gM T n p h i ≤ i := by
  intro i
  induction i with
  | zero => exact Nat.le_refl _
  | succ i ih =>
    rw [gM_s]
    split <;> omega
theorem c_arity23 (h13 : (v 13).toInt = ((b + n : Nat) : Int)) (hb : b + n ≤ 624) (hT : ∀ i, i < n → a 1 (b + i) = T i) {P l k : Nat} (hv : gV T n P l k) (hK : ∀ r : Int32, r.toInt = (k : Int) → K r v a) {p1 : Int32} : ∀ (m j : Nat) (p2 p3 p4 : Int32), j + m + 1 = l → p2.toInt = 1 + gB T n P j → p3.toInt = 1 + (gM T n P 0 j : Int) → p4.toInt = ((b + (P + j) : Nat) : Int) → mT 1 sM_145 23 [(0, .ref 33), (1, .int p1), (2, .int p2), (3, .int p3), (4, .int p4)] [] v a K := by
  obtain ⟨v1, v2, v3, v4, v5⟩ := hv
  intro m
  induction m with
  | zero =>
    intro j p2 p3 p4 hj h2 h3 h4
    have ea : (m_at v a p4).toInt = gC T n (P + j) := m_at_g h13 hT h4
    have bl := gB_le (T := T) (n := n) P j
    have ml := gM_le (T := T) (n := n) P 0 j
    have hl : j + 1 = l := by omega
    obtain ⟨w1, w2, w3, w4⟩ := v5 j (by omega)
    have hB : gB T n P j + (if gC T n (P + j) = 40 then 1 else if gC T n (P + j) = 41 then -1 else 0) = -1 := by
      rw [← gB_s, hl]
      exact v3
    have c41 : gC T n (P + j) = 41 := by
      by_cases c : gC T n (P + j) = 41
      · exact c
      · by_cases c0 : gC T n (P + j) = 40
        · rw [if_pos c0] at hB
          omega
        · rw [if_neg c0, if_neg c] at hB
          omega
    rw [if_neg (by omega), if_pos c41] at hB
    have e2 : True → (p2 + (-1)).toInt = 0 := fun _ => (i32_pred (by omega) (by omega)).trans (by omega)
    have hM : gM T n P 0 (j + 1) = gM T n P 0 j := by
      rw [gM_s, if_neg (fun z => by omega), Nat.add_zero]
    rw [← hl, hM] at v4
    refine r_145_23 ⟨by omega, by omega, fun h40 => ⟨fun h41 => absurd (ea.trans c41) h41, fun h41 => ⟨fun h44 => ⟨fun z => absurd (e2 trivial ▸ z) (by decide), fun _ => hK p3 (by clear h41 h44; omega)⟩, fun h44 => absurd (h41.symm.trans h44) (by decide)⟩⟩, fun h40 => absurd ((ea.trans c41).symm.trans h40) (by decide)⟩
  | succ m ih =>
    intro j p2 p3 p4 hj h2 h3 h4
    have ea : (m_at v a p4).toInt = gC T n (P + j) := m_at_g h13 hT h4
    have bl := gB_le (T := T) (n := n) P j
    have ml := gM_le (T := T) (n := n) P 0 j
    have w1' := (v5 (j + 1) (by omega)).1
    have e4 : (p4 + 1).toInt = ((b + (P + (j + 1)) : Nat) : Int) := by
      rw [i32_succ (by omega) (by omega)]
      omega
    have nxt : ∀ q2 q3 : Int32, q2.toInt = 1 + gB T n P (j + 1) → q3.toInt = 1 + (gM T n P 0 (j + 1) : Int) → ((0 < q2.toInt → mT 1 sM_145 23 [(0, .ref 33), (1, .int p1), (2, .int q2), (3, .int q3), (4, .int (p4 + 1))] [] v a K) ∧ (q2.toInt ≤ 0 → K q3 v a)) := by
      intro q2 q3 g2 g3
      exact ⟨fun _ => ih (j + 1) q2 q3 (p4 + 1) (by omega) g2 g3 e4, fun z => absurd z (by omega)⟩
    have hB := gB_s (T := T) (n := n) P j
    have hM := gM_s (T := T) (n := n) P j 0
    refine r_145_23 ⟨by omega, by omega, fun h40 => ⟨fun h41 => ⟨fun h44 => ?_, fun h44 => ⟨fun h => ?_, fun h => ?_⟩⟩, fun h41 => ⟨fun h44 => ?_, fun h44 => absurd (h41.symm.trans h44) (by decide)⟩⟩, fun h40 => ⟨fun h41 => ⟨fun h44 => ?_, fun h44 => absurd (h40.symm.trans h44) (by decide)⟩, fun h41 => absurd (h40.symm.trans h41) (by decide)⟩⟩
    · rw [ea] at h40 h41 h44
      rw [if_neg h40, if_neg h41] at hB
      rw [if_neg (fun z => h44 z.1)] at hM
      exact nxt p2 p3 (by omega) (by omega)
    · rw [ea] at h40 h41 h44
      rw [if_neg h40, if_neg h41] at hB
      rw [if_neg (fun z => h (by have := z.2; omega))] at hM
      exact nxt p2 p3 (by omega) (by omega)
    · rw [ea] at h40 h41 h44
      rw [if_neg h40, if_neg h41] at hB
      rw [if_pos ⟨h44, by omega⟩] at hM
      exact nxt p2 (p3 + 1) (by omega) (by rw [i32_succ (by omega) (by omega)]; omega)
    · rw [ea] at h41 h44
      rw [if_neg (by omega), if_pos h41] at hB
      rw [if_neg (fun z => h44 z.1)] at hM
      have o1 : p2.toInt - 1 = 1 + gB T n P (j + 1) := by omega
      have o2 : p3.toInt = 1 + (gM T n P 0 (j + 1) : Int) := by omega
      exact nxt (p2 + (-1)) p3 ((i32_pred (by omega) (by omega)).trans o1) o2
    · rw [ea] at h40 h44
      rw [if_pos h40] at hB
      rw [if_neg (fun z => h44 z.1)] at hM
      have e2 : (p2 + 1).toInt = p2.toInt + 1 := i32_succ (by omega) (by omega)
      exact nxt (p2 + 1) p3 (by omega) (by omega)
/-- how many ARGUMENTS stand behind the letter at p -/
def arI (T : Nat → Int32) (n p k : Nat) : Prop := (gC T n (p + 1) ≠ 40 ∧ k = 0) ∨ (gC T n (p + 1) = 40 ∧ ∃ l, gV T n (p + 2) l k)
theorem c_arity (h13 : (v 13).toInt = ((b + n : Nat) : Int)) (hb : b + n ≤ 624) (hT : ∀ i, i < n → a 1 (b + i) = T i) {p k : Nat} {p1 : Int32} (hp1 : p1.toInt = ((b + p : Nat) : Int)) (hpn : p ≤ n) (ha : arI T n p k) (hK : ∀ r : Int32, r.toInt = (k : Int) → K r v a) : mT 1 sM_145 0 [(0, .ref 33), (1, .int p1)] [] v a K := by
  have e1 : (p1 + 1).toInt = ((b + (p + 1) : Nat) : Int) := by
    rw [i32_succ (by omega) (by omega)]
    omega
  have ea : (m_at v a (p1 + 1)).toInt = gC T n (p + 1) := m_at_g h13 hT e1
  rcases ha with ⟨hc, rfl⟩ | ⟨hc, l, hv⟩
  · exact r_145_0 ⟨by omega, by omega, fun z => absurd (ea.symm.trans z) hc, fun _ => hK 0 (by decide)⟩
  · refine r_145_0 ⟨by omega, by omega, fun _ => ?_, fun z => absurd (ea.trans hc) z⟩
    -- the bracket itself
    have hl := hv.1
    have hl2 := hv.2.1
    have e2 : (p1 + 1 + 1).toInt = ((b + (p + 2 + 0) : Nat) : Int) := by
      rw [i32_succ (by omega) (by omega)]
      omega
    have go : mT 1 sM_145 23 [(0, .ref 33), (1, .int p1), (2, .int (0 + 1)), (3, .int 1), (4, .int (p1 + 1 + 1))] [] v a K := c_arity23 h13 hb hT hv hK (l - 1) 0 (0 + 1) 1 (p1 + 1 + 1) (by omega) (show (0 + 1 : Int32).toInt = 1 + 0 by decide) (show (1 : Int32).toInt = 1 + ((0 : Nat) : Int) by decide) e2
    refine r_145_23 ⟨by omega, by omega, fun z => absurd (ea.trans hc) z, fun h40 => ⟨fun h41 => ⟨fun h44 => ⟨fun _ => go, fun z => absurd z (by decide)⟩, fun h44 => absurd (h40.symm.trans h44) (by decide)⟩, fun h41 => absurd (h40.symm.trans h41) (by decide)⟩⟩
/-- fits: its loop -/
theorem c_fits28 {p1 p2 : Int32} {ci X : Nat} (hci : p1.toInt = (ci : Int)) (hc12 : ci < 12) (hX : p2.toInt = (X : Int)) (hX2 : X < 26000) (h2 : (a 2 ci).toInt = (n : Int)) (hn : n ≤ 48) (hT : ∀ i, i < n → a 1 (ci * 48 + i) = T i) {l k : Nat} (hv : gV T n 2 l k) (hK : ∀ r : Int32, (r.toInt ≠ 0 → (a 15 X).toInt = (k : Int)) → K r v a) : ∀ (m j : Nat) (p3 p4 p5 : Int32), j + m + 1 = l → p3.toInt = 1 + gB T n 2 j → p4.toInt = 1 + (gM T n 2 0 j : Int) → p5.toInt = ((2 + j : Nat) : Int) → mT 0 sM_137 28 [(0, .ref 33), (1, .int p1), (2, .int p2), (3, .int p3), (4, .int p4), (5, .int p5)] [] v a K := by
  obtain ⟨v1, v2, v3, v4, v5⟩ := hv
  have t48 : ((48 : Int32)).toInt = 48 := by decide
  intro m
  induction m with
  | zero =>
    intro j p3 p4 p5 hj h3 h4 h5
    have e48 : (p1 * 48 + p5).toInt = ((ci * 48 + (2 + j) : Nat) : Int) := i32_add (by rw [i32_mul (s := (ci : Int) * 48) (by rw [hci, t48]) (by omega) (by omega)]; omega) (by omega) (by omega)
    have ex : (a 1 (p1 * 48 + p5).toNatClampNeg).toInt = gC T n (2 + j) := by
      rw [i32_cl e48, hT _ (by omega)]
      unfold gC
      rw [if_pos (by omega)]
    have bl := gB_le (T := T) (n := n) 2 j
    have ml := gM_le (T := T) (n := n) 2 0 j
    have hl : j + 1 = l := by omega
    obtain ⟨w1, w2, w3, w4⟩ := v5 j (by omega)
    have hB : gB T n 2 j + (if gC T n (2 + j) = 40 then 1 else if gC T n (2 + j) = 41 then -1 else 0) = -1 := by
      rw [← gB_s, hl]
      exact v3
    have c41 : gC T n (2 + j) = 41 := by
      by_cases c : gC T n (2 + j) = 41
      · exact c
      · by_cases c0 : gC T n (2 + j) = 40
        · rw [if_pos c0] at hB
          omega
        · rw [if_neg c0, if_neg c] at hB
          omega
    rw [if_neg (by omega), if_pos c41] at hB
    have e2 : True → (p3 + (-1)).toInt = 0 := fun _ => (i32_pred (by omega) (by omega)).trans (by omega)
    have hM : gM T n 2 0 (j + 1) = gM T n 2 0 j := by
      rw [gM_s, if_neg (fun z => by omega), Nat.add_zero]
    rw [← hl, hM] at v4
    have fin : 0 ≤ p2.toInt ∧ p2.toInt < 26000 ∧ ((p4.toInt ≠ (a 15 p2.toNatClampNeg).toInt → K 0 v a) ∧ (p4.toInt = (a 15 p2.toNatClampNeg).toInt → K 1 v a)) := by
      rw [i32_cl hX]
      exact ⟨by omega, by omega, fun _ => hK 0 (fun z => absurd (by decide) z), fun z => hK 1 (fun _ => by omega)⟩
    refine r_137_28 ⟨by omega, by omega, fun z => ?_, fun z => ⟨by omega, by omega, fun _ => ⟨fun _ => ?_, fun z2 => absurd (ex.symm.trans z2) (by omega)⟩, fun z2 => absurd z2 (by omega)⟩⟩
    · rw [i32_cl hci, h2] at z
      exact absurd z (by omega)
    · refine r_137_79 ⟨fun _ => ⟨fun _ => ?_, fun z3 => absurd (ex.symm.trans z3) (by omega)⟩, fun z3 => absurd (ex.symm.trans z3) (by omega)⟩
      refine r_137_106 ⟨fun z3 => absurd (ex.trans c41) z3, fun _ => ⟨fun z4 => absurd (e2 trivial) z4, fun _ => fin⟩⟩
  | succ m ih =>
    intro j p3 p4 p5 hj h3 h4 h5
    have e48 : (p1 * 48 + p5).toInt = ((ci * 48 + (2 + j) : Nat) : Int) := i32_add (by rw [i32_mul (s := (ci : Int) * 48) (by rw [hci, t48]) (by omega) (by omega)]; omega) (by omega) (by omega)
    have ex : (a 1 (p1 * 48 + p5).toNatClampNeg).toInt = gC T n (2 + j) := by
      rw [i32_cl e48, hT _ (by omega)]
      unfold gC
      rw [if_pos (by omega)]
    have bl := gB_le (T := T) (n := n) 2 j
    have ml := gM_le (T := T) (n := n) 2 0 j
    have w1 := (v5 j (by omega)).1
    have w1' := (v5 (j + 1) (by omega)).1
    have e5 : (p5 + 1).toInt = ((2 + (j + 1) : Nat) : Int) := by
      rw [i32_succ (by omega) (by omega)]
      omega
    have hB := gB_s (T := T) (n := n) 2 j
    have hM := gM_s (T := T) (n := n) 2 j 0
    generalize hx : a 1 (p1 * 48 + p5).toNatClampNeg = x at *
    have k106 : ∀ q3 q4 : Int32, (x.toInt ≠ 41 → q3.toInt = 1 + gB T n 2 (j + 1)) → (x.toInt = 41 → q3.toInt = 2 + gB T n 2 (j + 1)) → q4.toInt = 1 + (gM T n 2 0 (j + 1) : Int) → mT 0 sM_137 106 [(0, .ref 33), (1, .int p1), (2, .int p2), (3, .int q3), (4, .int q4), (5, .int p5), (6, .int x)] [] v a K := by
      intro q3 q4 g1 g2 g3
      have bl' := gB_le (T := T) (n := n) 2 (j + 1)
      refine r_137_106 ⟨fun z => ⟨fun _ => ih (j + 1) q3 q4 (p5 + 1) (by omega) (g1 z) g3 e5, fun z2 => absurd (g1 z) (by omega)⟩, fun z => ?_⟩
      have g2' := g2 z
      have o1 : q3.toInt - 1 = 1 + gB T n 2 (j + 1) := by omega
      have o2 : ¬ (1 + gB T n 2 (j + 1) = 0) := by omega
      have e3 : True → (q3 + (-1)).toInt = 1 + gB T n 2 (j + 1) := fun _ => (i32_pred (by omega) (by omega)).trans o1
      exact ⟨fun _ => ih (j + 1) _ q4 (p5 + 1) (by clear z; omega) (e3 trivial) g3 e5, fun z2 => absurd ((e3 trivial).symm.trans z2) o2⟩
    have k79 : ∀ q3 : Int32, (x.toInt = 40 → q3.toInt = 1 + gB T n 2 (j + 1)) → (x.toInt ≠ 40 → q3.toInt = 1 + gB T n 2 j) → mT 0 sM_137 79 [(0, .ref 33), (1, .int p1), (2, .int p2), (3, .int q3), (4, .int p4), (5, .int p5), (6, .int x)] [] v a K := by
      intro q3 g1 g2
      have q106 : ∀ q4 : Int32, q4.toInt = 1 + (gM T n 2 0 (j + 1) : Int) → mT 0 sM_137 106 [(0, .ref 33), (1, .int p1), (2, .int p2), (3, .int q3), (4, .int q4), (5, .int p5), (6, .int x)] [] v a K := by
        intro q4 g4
        refine k106 q3 q4 (fun z => ?_) (fun z => ?_) g4
        · by_cases c : x.toInt = 40
          · exact g1 c
          · rw [ex] at c z
            rw [if_neg c, if_neg z] at hB
            rw [g2 (by rw [ex]; exact c)]
            omega
        · rw [ex] at z
          rw [if_neg (by omega), if_pos z] at hB
          rw [g2 (by omega)]
          omega
      refine r_137_79 ⟨fun c => ⟨fun c2 => q106 p4 ?_, fun c2 => ⟨fun c3 => q106 p4 ?_, fun c3 => q106 (p4 + 1) ?_⟩⟩, fun c => ⟨fun c3 => ?_, fun c3 => ⟨fun c2 => q106 p4 ?_, fun c2 => absurd (c.symm.trans c2) (by decide)⟩⟩⟩
      · rw [if_neg (fun z => c2 (ex.trans z.1))] at hM
        omega
      · have := g2 c
        rw [if_neg (fun z => c3 (by have := z.2; omega))] at hM
        omega
      · have := g2 c
        rw [ex] at c2
        rw [if_pos ⟨c2, by omega⟩] at hM
        rw [i32_succ (by omega) (by omega)]
        omega
      · have := g1 c
        rw [ex] at c
        rw [if_pos c] at hB
        exact absurd c3 (by omega)
      · rw [if_neg (fun z => c2 (ex.trans z.1))] at hM
        omega
    refine r_137_28 ⟨by omega, by omega, fun z => ?_, fun z => ?_⟩
    · rw [i32_cl hci, h2] at z
      exact absurd z (by omega)
    · rw [hx]
      refine ⟨by omega, by omega, fun _ => ⟨fun c => k79 p3 (fun z => absurd z c) (fun _ => h3), fun c => k79 (p3 + 1) (fun _ => ?_) (fun z => absurd c z)⟩, fun z2 => absurd z2 (by omega)⟩
      rw [ex] at c
      rw [if_pos c] at hB
      rw [i32_succ (by omega) (by omega)]
      omega
theorem c_fits {p1 p2 : Int32} {ci X : Nat} (hci : p1.toInt = (ci : Int)) (hc12 : ci < 12) (hX : p2.toInt = (X : Int)) (hX2 : X < 26000) (h2 : (a 2 ci).toInt = (n : Int)) (hn : n ≤ 48) (hT : ∀ i, i < n → a 1 (ci * 48 + i) = T i) {k : Nat} (ha : arI T n 0 k) (hK : ∀ r : Int32, (r.toInt ≠ 0 → (a 15 X).toInt = (k : Int)) → K r v a) : mT 0 sM_137 0 [(0, .ref 33), (1, .int p1), (2, .int p2)] [] v a K := by
  have t48 : ((48 : Int32)).toInt = 48 := by decide
  have e0 : (p1 * 48).toInt = (ci : Int) * 48 := i32_mul (by rw [hci, t48]) (by omega) (by omega)
  refine r_137_0 ⟨by omega, by omega, by omega, by omega, fun _ => ?_, fun _ => hK 0 (fun z => absurd (by decide) z)⟩
  have e48 : (p1 * 48 + 1).toInt = ((ci * 48 + 1 : Nat) : Int) := i32_add (by rw [e0, show ((1 : Int32)).toInt = 1 from by decide]; omega) (by omega) (by omega)
  have fin0 : k = 0 → 0 ≤ p2.toInt ∧ p2.toInt < 26000 ∧ (((0 : Int32).toInt ≠ (a 15 p2.toNatClampNeg).toInt → K 0 v a) ∧ ((0 : Int32).toInt = (a 15 p2.toNatClampNeg).toInt → K 1 v a)) := by
    intro hk
    rw [i32_cl hX]
    exact ⟨by omega, by omega, fun _ => hK 0 (fun z => absurd (by decide) z), fun z => hK 1 (fun _ => by rw [← z, hk]; decide)⟩
  rcases ha with ⟨hc, hk⟩ | ⟨hc, l, hv⟩
  · rw [Nat.zero_add] at hc
    refine r_137_28 ⟨by omega, by omega, fun _ => fin0 hk, fun z => ⟨by omega, by omega, fun z2 => absurd (by decide) z2, fun _ => ⟨fun z3 => ?_, fun _ => fin0 hk⟩⟩⟩
    rw [i32_cl hci, h2] at z
    have zz : (1 : Int32).toInt = 1 := by decide
    rw [i32_cl e48, hT 1 (by omega)] at z3
    unfold gC at hc
    rw [if_pos (by omega)] at hc
    exact absurd z3 hc
  · rw [Nat.zero_add] at hc hv
    have hl := hv.1
    have hl2 := hv.2.1
    have ex : (a 1 (p1 * 48 + 1).toNatClampNeg).toInt = 40 := by
      rw [i32_cl e48, hT 1 (by omega)]
      unfold gC at hc
      rw [if_pos (by omega)] at hc
      exact hc
    have go : mT 0 sM_137 28 [(0, .ref 33), (1, .int p1), (2, .int p2), (3, .int (0 + 1)), (4, .int (0 + 1)), (5, .int (1 + 1))] [] v a K := c_fits28 hci hc12 hX hX2 h2 hn hT hv hK (l - 1) 0 (0 + 1) (0 + 1) (1 + 1) (by omega) (show (0 + 1 : Int32).toInt = 1 + 0 by decide) (show (0 + 1 : Int32).toInt = 1 + ((0 : Nat) : Int) by decide) (by decide)
    have go2 : mT 0 sM_137 79 [(0, .ref 33), (1, .int p1), (2, .int p2), (3, .int (0 + 1)), (4, .int 0), (5, .int 1), (6, .int (a 1 (p1 * 48 + 1).toNatClampNeg))] [] v a K := by
      refine r_137_79 ⟨fun z => absurd ex z, fun _ => ⟨fun _ => r_137_106 ⟨fun _ => ⟨fun _ => go, fun z => absurd z (by decide)⟩, fun z => absurd (ex.symm.trans z) (by decide)⟩, fun z => absurd (by decide) z⟩⟩
    refine r_137_28 ⟨by omega, by omega, fun z => ?_, fun z => ⟨by omega, by omega, fun z2 => absurd (by decide) z2, fun _ => ⟨fun _ => ⟨fun z3 => absurd ex z3, fun _ => go2⟩, fun z3 => absurd ex z3⟩⟩⟩
    rw [i32_cl hci, h2] at z
    have zz : (1 : Int32).toInt = 1 := by decide
    exact absurd z (by omega)
/-- unmet: if it says no, the VARIABLES of both TERMS of the GUARD were met -/
theorem c_unmet7 (h13 : (v 13).toInt = ((b + n : Nat) : Int)) (hb : b + n ≤ 624) (hT : ∀ i, i < n → a 1 (b + i) = T i) {P l : Nat} (hPl : P + l ≤ n) (hB : ∀ i, i < l → 0 ≤ gB T n P i ∧ (gC T n (P + i) = 44 → 1 ≤ gB T n P i) ∧ gC T n (P + i) ≠ 124) (hK1 : K 1 v a) (hK0 : (∀ i, i < l → isU T n (P + i) → (a 5 (gC T n (P + i) - 65).toNat).toInt ≠ 2147483647) → K 0 v a) : ∀ (m j : Nat) (p1 p2 : Int32), p2.toInt = ((b + (P + j) : Nat) : Int) → P + j + m = n → (j ≤ l → p1.toInt = gB T n P j) → (∀ i, i < j → i < l → isU T n (P + i) → (a 5 (gC T n (P + i) - 65).toNat).toInt ≠ 2147483647) → mT 1 sM_147 7 [(0, .ref 33), (1, .int p1), (2, .int p2)] [] v a K := by
  intro m
  induction m with
  | zero =>
    intro j p1 p2 h2 hj hp1 hU
    exact r_147_7 ⟨fun _ => hK0 (fun i hi => hU i (by omega) hi), fun z => absurd z (by omega)⟩
  | succ m ih =>
    intro j p1 p2 h2 hj hp1 hU
    have ex : (a 1 p2.toNatClampNeg).toInt = gC T n (P + j) := by
      rw [i32_cl h2, hT _ (by omega)]
      unfold gC
      rw [if_pos (by omega)]
    have hs := gB_s (T := T) (n := n) P j
    have bl := gB_le (T := T) (n := n) P j
    have e2 : (p2 + 1).toInt = ((b + (P + (j + 1)) : Nat) : Int) := by
      rw [i32_succ (by omega) (by omega)]
      omega
    have hj' : P + (j + 1) + m = n := by omega
    have next : ∀ q1 : Int32, (j < l → q1.toInt = gB T n P (j + 1)) → (j < l → isU T n (P + j) → (a 5 (gC T n (P + j) - 65).toNat).toInt ≠ 2147483647) → mT 1 sM_147 7 [(0, .ref 33), (1, .int q1), (2, .int (p2 + 1))] [] v a K := by
      intro q1 g1 g2
      refine ih (j + 1) q1 (p2 + 1) e2 hj' (fun z => g1 z) (fun i hi hl hu => ?_)
      by_cases e : i = j
      · subst e
        exact g2 hl hu
      · exact hU i (by omega) hl hu
    refine r_147_7 ⟨fun z => absurd z (by omega), fun _ => ⟨by omega, by omega, ?_⟩⟩
    generalize a 1 p2.toNatClampNeg = x at *
    have k40 : ∀ q1 : Int32, (j < l → q1.toInt = gB T n P (j + 1)) → mT 1 sM_147 40 [(0, .ref 33), (1, .int q1), (2, .int p2), (3, .int x)] [] v a K := by
      intro q1 g1
      have met : ¬ j < l → K 0 v a := fun z => hK0 (fun i hi => hU i (by omega) hi)
      have big : 65 ≤ x.toInt → x.toInt ≤ 90 → 0 ≤ (x - 65).toInt ∧ (x - 65).toInt < 26 ∧ ((((a 5) (x - 65).toNatClampNeg).toInt ≠ 2147483647 → mT 1 sM_147 7 [(0, .ref 33), (1, .int q1), (2, .int (p2 + 1))] [] v a K) ∧ (((a 5) (x - 65).toNatClampNeg).toInt = 2147483647 → K 1 v a)) := by
        intro u1 u2
        have ei : (x - 65).toInt = (((gC T n (P + j) - 65).toNat : Nat) : Int) := i32_sub (by rw [show ((65 : Int32)).toInt = 65 from by decide]; omega) (by omega) (by omega)
        rw [i32_cl ei]
        exact ⟨by omega, by omega, fun z => next q1 g1 (fun _ _ => z), fun _ => hK1⟩
      have small : (x.toInt < 65 ∨ 90 < x.toInt) → mT 1 sM_147 7 [(0, .ref 33), (1, .int q1), (2, .int (p2 + 1))] [] v a K := fun u => next q1 g1 (fun _ z => absurd z.1 (by have := z.2; omega))
      refine r_147_40 ⟨fun h => met (fun z => (hB j z).2.2 (ex.symm.trans h)), fun _ => ⟨fun _ => ⟨big, small⟩, fun h44 => ⟨fun _ => ⟨fun z => absurd (h44 ▸ z) (by decide), small⟩, fun hz => met (fun z => ?_)⟩⟩⟩
      have h1 := (hB j z).2.1 (ex.symm.trans h44)
      have h2 := g1 z
      rw [ex] at h44
      rw [if_neg (by omega), if_neg (by omega)] at hs
      omega
    refine ⟨fun h40 => ⟨fun h41 => k40 p1 (fun z => ?_), fun h41 => k40 (p1 + (-1)) (fun z => ?_)⟩, fun h40 => ⟨fun h41 => k40 (p1 + 1) (fun z => ?_), fun h41 => absurd (h40.symm.trans h41) (by decide)⟩⟩
    · rw [ex] at h40 h41
      rw [if_neg h40, if_neg h41] at hs
      have := hp1 (by omega)
      omega
    · rw [ex] at h40 h41
      rw [if_neg h40, if_pos h41] at hs
      have h1 := hp1 (by omega)
      have o1 : p1.toInt - 1 = gB T n P (j + 1) := by omega
      exact (i32_pred (by omega) (by omega)).trans o1
    · rw [ex] at h40
      rw [if_pos h40] at hs
      have h1 := hp1 (by omega)
      rw [i32_add (s := p1.toInt + 1) (by rw [show ((1 : Int32)).toInt = 1 from by decide]) (by omega) (by omega)]
      omega
theorem c_unmet {p l : Nat} (tv : tV v a T b n p) (hPl : p + l ≤ n) (hB : ∀ i, i < l → 0 ≤ gB T n p i ∧ (gC T n (p + i) = 44 → 1 ≤ gB T n p i) ∧ gC T n (p + i) ≠ 124) (hK1 : K 1 v a) (hK0 : (∀ i, i < l → isU T n (p + i) → (a 5 (gC T n (p + i) - 65).toNat).toInt ≠ 2147483647) → K 0 v a) : mT 1 sM_147 0 [(0, .ref 33)] [] v a K :=
  r_147_0 (c_unmet7 tv.2.1 tv.2.2.2.1 tv.2.2.2.2 hPl hB hK1 hK0 (n - p) 0 0 (v 12) tv.1 (by omega) (fun _ => rfl) (fun i hi => absurd hi (by omega)))
end SC
