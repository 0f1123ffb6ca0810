/-! sleep, write with the waking, same, reckon -/
section SM
variable {v v1 : Nat → Int32} {a a1 : Nat → Nat → Int32} {c w : Nat} {K : Int32 → (Nat → Int32) → (Nat → Nat → Int32) → Prop}
/-- a GOAL in hand is done -/
theorem gi.clear {i : Nat} (h : gi v a c w (fun g => g = i) 1) (hi : i < 61) (hu : (a 30 i).toInt ≠ 0) (hs : (a 25 i).toInt = 0) : gi v (va_up a 30 (upd (a 30) i 0)) c w (fun _ => False) 0 := by
  obtain ⟨h1, ⟨z, z1, z2, z3, z4⟩, h3, h4⟩ := h
  refine ⟨h1.imp rfl rfl (fun g _ q => ?_), ⟨z, z1, z2, ?_, by show sS a + z + 0 ≤ 60; omega⟩, fun g hg => ?_, fun g hg q => ?_⟩
  · refine ⟨?_, q.2.1, fun y => y⟩
    show (upd (a 30) i 0 g).toInt ≠ 0
    rw [ud_ne q.2.2]
    exact q.1
  · show cn (upd (a 30) i 0) 61 = sS a + z + 0
    have := cn_clr (x := 0) hu (by decide) 61 hi
    omega
  · obtain ⟨q1, q2, q3⟩ := h3 g hg
    refine ⟨q1, q2, fun y => ?_⟩
    have ne : g ≠ i := fun e => by subst e; exact y hs
    show (upd (a 30) i 0 g).toInt ≠ 0
    rw [ud_ne ne]
    exact q3 y
  · have q' : (upd (a 30) i 0 g).toInt ≠ 0 := q
    by_cases e : g = i
    · subst e
      rw [ud_eq] at q'
      exact absurd (by decide) q'
    · rw [ud_ne e] at q'
      exact (h4 g hg q').of (Nat.le_refl _) (Nat.le_refl _) rfl rfl rfl rfl rfl
theorem c_sleep42 {g : Int32} {i m : Nat} (hg : g.toInt = (i : Int)) (hi : i < 61) (h43 : (v 43).toInt = (m : Int)) (hm : m ≤ 14) : ∀ (k : Nat) (p2 : Int32) (a : Nat → Nat → Int32), p2.toInt + (k : Int) = (m : Int) → 0 ≤ p2.toInt → (∀ a1, fr [26] a a1 → K 0 v a1) → mT 0 sM_149 42 [(0, .ref 33), (1, .int g), (2, .int p2)] [] v a K := by
  have t : ((14 : Int32)).toInt = 14 := by decide
  have em : (g * 14).toInt = (i : Int) * 14 := i32_mul (by rw [hg, t]) (by omega) (by omega)
  intro k
  induction k with
  | zero =>
    intro p2 a h h0 hK
    exact r_149_42 ⟨fun _ => hK a fr.rfl', fun z => absurd z (by omega)⟩
  | succ k ih =>
    intro p2 a h h0 hK
    have e := i32_succ (x := p2) (by omega) (by omega)
    have ei : (g * 14 + p2).toInt = (i : Int) * 14 + p2.toInt := i32_add (by rw [em]) (by omega) (by omega)
    exact r_149_42 ⟨fun z => absurd z (by omega), fun _ => ⟨by omega, by omega, by omega, by omega, ih (p2 + 1) _ (by omega) (by omega) (fun a1 o => hK a1 ((fr.rfl'.up (by decide)).trans o))⟩⟩
/-- sleep(g) of the GOAL in hand -/
theorem c_sleep {g : Int32} {i m : Nat} (hg : g.toInt = (i : Int)) (hi : i < 61) (h43 : (v 43).toInt = (m : Int)) (hm1 : 1 ≤ m) (hm : m ≤ 14) (h : gi v a c w (fun g => g = i) 1) (hu : (a 30 i).toInt ≠ 0) (hs : (a 25 i).toInt = 0)
    (hK : ∀ v1 a1, gi v1 a1 c w (fun _ => False) 0 → fr [40, 41] v v1 → fr [24, 25, 26] a a1 → K 0 v1 a1) : mT 0 sM_149 0 [(0, .ref 33), (1, .int g)] [] v a K := by
  refine r_149_0 ⟨by omega, by omega, by omega, by omega, ?_⟩
  rw [i32_cl hg]
  refine c_sleep42 (v := va_up (va_up v 41 (v 41 + 1)) 40 (v 40 + 1)) hg hi h43 hm m 0 _ (by rw [show ((0 : Int32)).toInt = 0 from by decide]; omega) (by decide) (fun a1 o => ?_)
  refine hK _ a1 ?_ ((fr.rfl'.up (by decide)).up (by decide)) (((fr.rfl'.up (by decide)).up (by decide)).trans (o.sub (by decide)))
  refine gi.of (v := va_up (va_up v 41 (v 41 + 1)) 40 (v 40 + 1)) (a := va_up (va_up a 24 (upd (a 24) i (v 41 + 1))) 25 (upd (a 25) i (v 43))) ?_ (Nat.le_refl _) (Nat.le_refl _) rfl (fun j hj => o j (fun y => by rw [List.mem_singleton] at y; omega))
  obtain ⟨h1, ⟨z, z1, z2, z3, z4⟩, h3, h4⟩ := h
  have hm0 : (v 43).toInt ≠ 0 := by omega
  refine ⟨h1.imp rfl rfl (fun g' _ q => ⟨q.1, ?_, fun y => y⟩), ⟨z + 1, ?_, ?_, by show cn (a 30) 61 = sS a + (z + 1) + 0; omega, by show sS a + (z + 1) + 0 ≤ 60; omega⟩, fun g' hg' => ?_, fun g' hg' q => (h4 g' hg' q).of (Nat.le_refl _) (Nat.le_refl _) rfl rfl rfl rfl rfl⟩
  · show (upd (a 25) i (v 43) g').toInt = 0
    rw [ud_ne q.2.2]
    exact q.2.1
  · show (v 40 + 1).toInt = _
    rw [i32_succ (by omega) (by omega)]
    omega
  · show cn (upd (a 25) i (v 43)) 61 = _
    rw [cn_set hs hm0 61 hi, z2]
  · show 0 ≤ (upd (a 25) i (v 43) g').toInt ∧ (upd (a 25) i (v 43) g').toInt ≤ 14 ∧ ((upd (a 25) i (v 43) g').toInt ≠ 0 → (a 30 g').toInt ≠ 0)
    by_cases e : g' = i
    · subst e
      rw [ud_eq]
      exact ⟨by omega, by omega, fun _ => hu⟩
    · rw [ud_ne e]
      exact h3 g' hg'
theorem g_bind {x : Nat} {t : Int32} (hg : gr a c w) (ht : -(x : Int) ≤ t.toInt ∧ t.toInt < (c : Int)) : gr (va_up a 17 (upd (a 17) x t)) c w := by
  refine ⟨hg.1, fun y hy => ?_⟩
  show (upd (a 17) x t y).toInt = _ ∨ (-(y : Int) ≤ (upd (a 17) x t y).toInt ∧ (upd (a 17) x t y).toInt < (c : Int))
  by_cases e : y = x
  · subst e
    rw [ud_eq]
    exact Or.inr ht
  · rw [ud_ne e]
    exact hg.2 y hy
/-- one GOAL wakes -/
theorem gi.wake {i l : Nat} {G x : Int32} {Y : Int32} (h : gi v a c w (fun _ => False) 0) (hi : i < 61) (hs : (a 25 i).toInt ≠ 0) (hl : (a 19 i).toInt = (l : Int)) (hG : G.toInt = (i : Int)) (hx : x.toInt = ((sz a l + 1 : Nat) : Int)) (hY : Y.toInt = (v 40).toInt - 1) : gi (va_up v 40 Y) (va_up (va_up (va_up a 25 (upd (a 25) i 0)) 27 (upd (a 27) (l * 61 + sz a l) G)) 28 (upd (a 28) l x)) c w (fun _ => False) 0 := by
  have hb := h.bound
  obtain ⟨h1, ⟨z, z1, z2, z3, z4⟩, h3, h4⟩ := h
  have hu := (h3 i hi).2.2 hs
  have hl4 := (h4 i hi hu).1
  have eS : sS (va_up (va_up (va_up a 25 (upd (a 25) i 0)) 27 (upd (a 27) (l * 61 + sz a l) G)) 28 (upd (a 28) l x)) = sS a + 1 := sS_inc (a := a) (l := l) (by omega) rfl hx
  have hc := cn_clr (x := 0) hs (by decide) 61 hi
  refine ⟨?_, ⟨z - 1, ?_, ?_, ?_, ?_⟩, fun g hg => ?_, fun g hg q => (h4 g hg q).of (Nat.le_refl _) (Nat.le_refl _) rfl rfl rfl rfl rfl⟩
  · refine rW_enter (a := a) (P := fun g => (a 30 g).toInt ≠ 0 ∧ (a 25 g).toInt = 0 ∧ ¬ False) (l := l) (g := i) (G := G) (x := x) h1 (by omega) hi hb (fun q => hs q.2.1) rfl hG rfl hx (fun g q => ⟨q.1, ?_, q.2.2⟩) ⟨hu, ?_, fun y => y⟩
    · have ne : g ≠ i := fun e => by subst e; exact hs q.2.1
      show (upd (a 25) i 0 g).toInt = 0
      rw [ud_ne ne]
      exact q.2.1
    · show (upd (a 25) i 0 i).toInt = 0
      rw [ud_eq]
      decide
  · show Y.toInt = _
    omega
  · show cn (upd (a 25) i 0) 61 = z - 1
    omega
  · rw [eS]
    show cn (a 30) 61 = _
    omega
  · rw [eS]
    omega
  · show 0 ≤ (upd (a 25) i 0 g).toInt ∧ (upd (a 25) i 0 g).toInt ≤ 14 ∧ ((upd (a 25) i 0 g).toInt ≠ 0 → (a 30 g).toInt ≠ 0)
    by_cases e : g = i
    · subst e
      rw [ud_eq]
      exact ⟨by decide, by decide, fun y => absurd (by decide) y⟩
    · rw [ud_ne e]
      exact h3 g hg
theorem c_write20 {p1 p2 : Int32} (h : gi v a c w (fun _ => False) 0) (hE : K 0 v a) (hW : ∀ (i : Nat) (p3 : Int32), p3.toInt = (i : Int) → i < 61 → (a 25 i).toInt ≠ 0 → mT 1 sM_152 20 [(0, .ref 33), (1, .int p1), (2, .int p2), (3, .int p3), (4, .int 61)] [] v a K) : ∀ (m u : Nat) (p3 p4 : Int32), p4.toInt = (u : Int) → u + m = 61 → (p3.toInt < 0 ∨ ∃ i : Nat, p3.toInt = (i : Int) ∧ i < 61 ∧ (a 25 i).toInt ≠ 0) → mT 1 sM_152 20 [(0, .ref 33), (1, .int p1), (2, .int p2), (3, .int p3), (4, .int p4)] [] v a K := by
  intro m
  induction m with
  | zero =>
    intro u p3 p4 h4 hu h3
    have e61 : p4 = 61 := Int32.toInt_inj.mp (by rw [h4, show ((61 : Int32)).toInt = 61 from by decide]; omega)
    rcases h3 with h3 | ⟨i, h3, hi, hs⟩
    · exact r_152_20 ⟨fun _ => ⟨fun z => absurd z (by omega), fun _ => hE⟩, fun z => absurd z (by omega)⟩
    · rw [e61]
      exact hW i p3 h3 hi hs
  | succ m ih =>
    intro u p3 p4 h4 hu h3
    have e4 : (p4 + 1).toInt = ((u + 1 : Nat) : Int) := by
      rw [i32_succ (by omega) (by omega)]
      omega
    obtain ⟨g1, g2, g3⟩ := h.2.2.1 u (by omega)
    refine r_152_20 ⟨fun z => absurd z (by omega), fun _ => ⟨by omega, by omega, fun _ => ih (u + 1) p3 (p4 + 1) e4 (by omega) h3, fun _ => ?_⟩⟩
    refine c_sleepsOn h4 (by omega) ⟨g1, g2⟩ (fun r hr => ⟨fun _ => ih (u + 1) p3 (p4 + 1) e4 (by omega) h3, fun z => ?_⟩)
    have hs : (a 25 u).toInt ≠ 0 := by
      have := hr z
      omega
    refine ⟨fun _ => ih (u + 1) p4 (p4 + 1) e4 (by omega) (Or.inr ⟨u, h4, by omega, hs⟩), fun y => ⟨by omega, by omega, y, ?_, fun _ => ih (u + 1) p3 (p4 + 1) e4 (by omega) h3, fun _ => ih (u + 1) p4 (p4 + 1) e4 (by omega) (Or.inr ⟨u, h4, by omega, hs⟩)⟩⟩
    rcases h3 with h3 | ⟨i, h3, hi, -⟩ <;> omega
theorem c_write11 {p1 p2 : Int32} : ∀ (k z : Nat) (p3 : Int32) (v : Nat → Int32) (a : Nat → Nat → Int32), (v 40).toInt = (z : Int) → z ≤ k → 0 ≤ p3.toInt → gi v a c w (fun _ => False) 0 → (∀ v1 a1, gi v1 a1 c w (fun _ => False) 0 → fr [40] v v1 → fr [25, 27, 28] a a1 → K 0 v1 a1) → mT 1 sM_152 11 [(0, .ref 33), (1, .int p1), (2, .int p2), (3, .int p3)] [] v a K := by
  intro k
  induction k with
  | zero =>
    intro z p3 v a hz hk h3 h hK
    obtain ⟨-, ⟨z', y1, y2, y3, y4⟩, -⟩ := id h
    refine r_152_11 ⟨fun y => absurd y (by omega), fun _ => ?_⟩
    refine c_write20 h (hK v a h fr.rfl' fr.rfl') (fun i p3 _ hi hs => ?_) 61 0 _ 0 (by decide) (by omega) (Or.inl (by decide))
    have := cn_pos (f := a 25) hs 61 hi
    omega
  | succ k ih =>
    intro z p3 v a hz hk h3 h hK
    refine r_152_11 ⟨fun y => absurd y (by omega), fun _ => ?_⟩
    refine c_write20 h (hK v a h fr.rfl' fr.rfl') (fun i p3 hp3 hi hs => ?_) 61 0 _ 0 (by decide) (by omega) (Or.inl (by decide))
    obtain ⟨h1, ⟨z', y1, y2, y3, y4⟩, h3', h4'⟩ := id h
    have hpos := cn_pos (f := a 25) hs 61 hi
    have hu := (h3' i hi).2.2 hs
    have hgf := h4' i hi hu
    obtain ⟨l, el⟩ : ∃ l : Nat, (a 19 i).toInt = (l : Int) := ⟨(a 19 i).toInt.toNat, by have := hgf.1.1; omega⟩
    have hl4 : l < 4 := by have := hgf.1.2; omega
    have es := sz_eq (h1.1 l hl4)
    have sl := sz_le (a := a) hl4
    have t61 : ((61 : Int32)).toInt = 61 := by decide
    have ei : (a 19 i * 61 + a 28 l).toInt = ((l * 61 + sz a l : Nat) : Int) := i32_add (by rw [i32_mul (s := (l : Int) * 61) (by rw [el, t61]) (by omega) (by omega), es]; omega) (by omega) (by omega)
    have ex : (a 28 l + 1).toInt = ((sz a l + 1 : Nat) : Int) := by
      rw [i32_succ (by omega) (by omega), es]
      omega
    have ey : (v 40 - 1).toInt = (v 40).toInt - 1 := i32_sub (by rw [show ((1 : Int32)).toInt = 1 from by decide]) (by omega) (by omega)
    have hw := gi.wake h hi hs el hp3 ex ey
    refine r_152_20 ⟨fun _ => ⟨fun _ => ?_, fun y => absurd y (by omega)⟩, fun y => absurd y (by decide)⟩
    rw [i32_cl hp3, i32_cl el, i32_cl ei, ei]
    refine ⟨by omega, by omega, by omega, by omega, by omega, by omega, by omega, by omega, by omega, by omega, by omega, by omega, ih (z - 1) p3 _ _ ?_ (by omega) (by omega) hw (fun v1 a1 q1 q2 q3 => hK v1 a1 q1 ((fr.rfl'.up (by decide)).trans q2) ((((fr.rfl'.up (by decide)).up (by decide)).up (by decide)).trans q3))⟩
    show (v 40 - 1).toInt = _
    omega
/-- write(x, t) -/
theorem c_write {p1 t : Int32} (hg : gr a c w) (hw : w ≤ 12000) (h : gi v a c w (fun _ => False) 0) (hn : p1.toInt < 0) (hr : rf c w p1) (hlt : p1.toInt < t.toInt) (ht : t.toInt < (c : Int)) (hK : ∀ v1 a1, gr a1 c w → gi v1 a1 c w (fun _ => False) 0 → fr [40] v v1 → fr [17, 25, 27, 28] a a1 → K 0 v1 a1) : mT 1 sM_152 0 [(0, .ref 33), (1, .int p1), (2, .int t)] [] v a K := by
  have h1 := hr.1
  refine r_152_0 ?_
  rw [i32_varN hn, i32_var hn]
  refine ⟨by omega, by omega, ?_⟩
  have hg' : gr (va_up a 17 (upd (a 17) (-1 - p1.toInt).toNat t)) c w := g_bind hg ⟨by omega, ht⟩
  obtain ⟨z, y1, -⟩ := id h.2.1
  refine c_write11 z z 0 v _ y1 (Nat.le_refl _) (by decide) (h.of (Nat.le_refl _) (Nat.le_refl _) rfl (fun j hj => va_ne (by omega))) (fun v1 a1 q1 q2 q3 => hK v1 a1 (hg'.of (q3 15 (by decide)) (q3 16 (by decide)) (q3 17 (by decide))) q1 q2 ((fr.rfl'.up (by decide)).trans (q3.sub (by decide))))
theorem c_same16 (hc : c ≤ 26000) (hw : w ≤ 12000) {p1 p2 : Int32} : ∀ (k m : Nat) (v : Nat → Int32) (a : Nat → Nat → Int32), (v 46).toInt = 60 - (k : Int) → (v 45).toInt = (m : Int) → m + 2 * k ≤ 121 → k ≤ 60 → prS a c w m → gr a c w → gi v a c w (fun _ => False) 0 → (∀ r v1 a1, gr a1 c w → gi v1 a1 c w (fun _ => False) 0 → fr [40, 45, 46] v v1 → fr [17, 25, 27, 28, 31, 32] a a1 → K r v1 a1) → mT 2 sM_151 16 [(0, .ref 33), (1, .int p1), (2, .int p2)] [] v a K := by
  intro k
  induction k with
  | zero =>
    intro m v a h46 h45 hm _ hp hg h hK
    exact r_151_16 ⟨fun _ => hK 0 v a hg h fr.rfl' fr.rfl', fun _ => ⟨fun z => absurd h46 (by omega), fun _ => hK _ v a hg h fr.rfl' fr.rfl'⟩⟩
  | succ k ih =>
    intro m v a h46 h45 hm hk hp hg h hK
    refine r_151_16 ⟨fun _ => hK 0 v a hg h fr.rfl' fr.rfl', fun hpos => ⟨fun _ => ?_, fun z => absurd z (by omega)⟩⟩
    obtain ⟨m, rfl⟩ : ∃ m1, m = m1 + 1 := ⟨m - 1, by omega⟩
    have e45 : (v 45 - 1).toInt = (m : Int) := i32_sub (by rw [h45, show ((1 : Int32)).toInt = 1 from by decide]; omega) (by omega) (by omega)
    have e46 : (v 46 + 1).toInt = 60 - (k : Int) := by
      rw [i32_succ (by omega) (by omega)]
      omega
    have hpm := hp m (by omega)
    have hp' : prS a c w m := fun i hi => hp i (by omega)
    rw [i32_cl e45]
    refine ⟨by omega, by omega, c_value hg hw hpm.1 ⟨show 0 ≤ (v 45 - 1).toInt by omega, show (v 45 - 1).toInt < 200 by omega, ?_⟩⟩
    show mT 0 sM_136 0 [(0, .ref 33), (1, .int (a 32 (v 45 - 1).toNatClampNeg))] [] _ a _
    rw [i32_cl e45]
    refine c_value hg hw hpm.2 ?_
    have x1 := vf_rf hg hpm.1
    have x2 := vf_rf hg hpm.2
    generalize vf (a 17) w (a 31 m) = X at *
    generalize vf (a 17) w (a 32 m) = Y at *
    have oo : fr [40, 45, 46] v (va_up (va_up v 46 (v 46 + 1)) 45 (v 45 - 1)) := (fr.rfl'.up (by decide)).up (by decide)
    have h' : gi (va_up (va_up v 46 (v 46 + 1)) 45 (v 45 - 1)) a c w (fun _ => False) 0 := h.of (Nat.le_refl _) (Nat.le_refl _) rfl (fun _ _ => rfl)
    have loop : mT 2 sM_151 16 [(0, .ref 33), (1, .int p1), (2, .int p2)] [] (va_up (va_up v 46 (v 46 + 1)) 45 (v 45 - 1)) a K := ih m _ a e46 e45 (by omega) (by omega) hp' hg h' (fun r v1 a1 q1 q2 q3 q4 => hK r v1 a1 q1 q2 (oo.trans q3) q4)
    have kopen : 0 ≤ X.toInt → 0 ≤ Y.toInt → mT 1 sM_143 0 [(0, .ref 33), (1, .int X), (2, .int Y)] [] (va_up (va_up v 46 (v 46 + 1)) 45 (v 45 - 1)) a (fun r24 v24 a24 => ((r24.toInt ≠ 0 → mT 2 sM_151 16 [(0, .ref 33), (1, .int p1), (2, .int p2)] [] v24 a24 K) ∧ (r24.toInt = 0 → K 3 v24 a24))) := by
      intro hX hY
      refine c_open hg hc hX x1.2 hY x2.2 e45 (by omega) hp' (fun r v1 a1 m1 q1 q2 q3 q4 q5 => ?_)
      have g1 : gr a1 c w := hg.of (q4.2 15 (by decide) (by decide)) (q4.2 16 (by decide) (by decide)) (q4.2 17 (by decide) (by decide))
      have g2 : gi v1 a1 c w (fun _ => False) 0 := h'.of (Nat.le_refl _) (Nat.le_refl _) (q4.1 40 (by decide) (by decide)) (fun j hj => q4.2 j (by omega) (by omega))
      have f1 : fr [40, 45, 46] v v1 := oo.trans (fun j hj => q4.1 j (nin hj (by decide)) (nin hj (by decide)))
      have f2 : fr [17, 25, 27, 28, 31, 32] a a1 := fun j hj => q4.2 j (nin hj (by decide)) (nin hj (by decide))
      exact ⟨fun _ => ih m1 v1 a1 (by rw [q5]; exact e46) q2 (by omega) (by omega) q3 g1 g2 (fun r v2 a2 z1 z2 z3 z4 => hK r v2 a2 z1 z2 (f1.trans z3) (f2.trans z4)), fun _ => hK 3 v1 a1 g1 g2 f1 f2⟩
    have kwrite : ∀ x t : Int32, x.toInt < 0 → rf c w x → x.toInt < t.toInt → rf c w t → mT 1 sM_152 0 [(0, .ref 33), (1, .int x), (2, .int t)] [] (va_up (va_up v 46 (v 46 + 1)) 45 (v 45 - 1)) a (fun _ v26 a26 => mT 2 sM_151 16 [(0, .ref 33), (1, .int p1), (2, .int p2)] [] v26 a26 K) := by
      intro x t hx hr hlt ht
      refine c_write hg hw h' hx hr hlt ht.2 (fun v1 a1 q1 q2 q3 q4 => ?_)
      refine ih m v1 a1 (by rw [q3 46 (by decide)]; exact e46) (by rw [q3 45 (by decide)]; exact e45) (by omega) (by omega) (fun i hi => by rw [q4 31 (by decide), q4 32 (by decide)]; exact hp' i hi) q1 q2 (fun r v2 a2 z1 z2 z3 z4 => hK r v2 a2 z1 z2 ((oo.trans (q3.sub (by decide))).trans z3) ((q4.sub (by decide)).trans z4))
    refine ⟨fun hne => ⟨fun hX => ⟨fun hY => kopen hX hY, fun hY => kwrite Y X hY x2 (by omega) x1⟩, fun hX => ⟨fun hY => kwrite X Y hX x1 (by omega) x2, fun hY => ⟨fun hle => ⟨fun z => absurd z (by omega), fun _ => kwrite Y X hY x2 (by omega) x1⟩, fun hlt => kwrite X Y hX x1 hlt x2⟩⟩⟩, fun heq => ⟨fun hX => ⟨fun _ => ⟨fun hY => kopen hX hY, fun z => absurd z (by omega)⟩, fun z => absurd z (by omega)⟩, fun _ => loop⟩⟩
/-- same(x, y) -/
theorem c_same (hg : gr a c w) (hc : c ≤ 26000) (hw : w ≤ 12000) (h : gi v a c w (fun _ => False) 0) {x y : Int32} (hx : rf c w x) (hy : rf c w y) (hK : ∀ r v1 a1, gr a1 c w → gi v1 a1 c w (fun _ => False) 0 → fr [40, 45, 46] v v1 → fr [17, 25, 27, 28, 31, 32] a a1 → K r v1 a1) : mT 2 sM_151 0 [(0, .ref 33), (1, .int x), (2, .int y)] [] v a K := by
  refine r_151_0 (c_same16 hc hw 60 1 _ _ rfl rfl (by decide) (by decide) ?_ (hg.of rfl rfl rfl) (h.of (Nat.le_refl _) (Nat.le_refl _) rfl (fun j hj => (va_ne (by omega)).trans (va_ne (by omega)))) (fun r v1 a1 q1 q2 q3 q4 => hK r v1 a1 q1 q2 (((fr.rfl'.up (by decide)).up (by decide)).trans q3) (((fr.rfl'.up (by decide)).up (by decide)).trans q4)))
  intro i hi
  obtain rfl : i = 0 := by omega
  exact ⟨hx, hy⟩
end SM
