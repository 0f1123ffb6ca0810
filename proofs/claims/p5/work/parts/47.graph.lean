/-! THE GRAPH of TERMS: cells below c, VARIABLES below w; value, open, alike, find, sleepsOn -/
def rf (c w : Nat) (t : Int32) : Prop := -(w : Int) ≤ t.toInt ∧ t.toInt < (c : Int)
def gr (a : Nat → Nat → Int32) (c w : Nat) : Prop :=
  (∀ t, t < c → 0 ≤ (a 15 t).toInt ∧ (a 15 t).toInt ≤ 3 ∧ ∀ i : Nat, (i : Int) < (a 15 t).toInt → rf c w (a 16 (t * 3 + i))) ∧
  ∀ x, x < w → (a 17 x).toInt = 2147483647 ∨ (-(x : Int) ≤ (a 17 x).toInt ∧ (a 17 x).toInt < (c : Int))
def vf (f : Nat → Int32) : Nat → Int32 → Int32
  | 0, t => t
  | k + 1, t => if t.toInt < 0 ∧ (f (-1 - t.toInt).toNat).toInt ≠ 2147483647 then vf f k (f (-1 - t.toInt).toNat) else t
section GR
variable {v v1 : Nat → Int32} {a a0 a1 : Nat → Nat → Int32} {K : Int32 → (Nat → Int32) → (Nat → Nat → Int32) → Prop} {c w : Nat}
theorem gr.of (h : gr a c w) (e1 : a1 15 = a 15) (e2 : a1 16 = a 16) (e3 : a1 17 = a 17) : gr a1 c w := by
  unfold gr at *
  rw [e1, e2, e3]
  exact h
theorem rf.mono {c1 w1 : Nat} {t : Int32} (h : rf c w t) (hc : c ≤ c1) (hw : w ≤ w1) : rf c1 w1 t := ⟨by have := h.1; omega, by have := h.2; omega⟩
theorem i32_var {t : Int32} (h : t.toInt < 0) : ((-1) - t).toInt = -1 - t.toInt := by
  have : -2147483648 ≤ t.toInt := Int32.le_toInt t
  exact i32_sub (by rw [show ((-1 : Int32)).toInt = -1 from by decide]) (by omega) (by omega)
theorem i32_varN {t : Int32} (h : t.toInt < 0) : ((-1) - t).toNatClampNeg = (-1 - t.toInt).toNat := by
  show ((-1) - t).toInt.toNat = _
  rw [i32_var h]
theorem vf_pos {f : Nat → Int32} {k : Nat} {t : Int32} (h : 0 ≤ t.toInt) : vf f k t = t := by
  cases k with
  | zero => rfl
  | succ k =>
    unfold vf
    rw [if_neg (by omega)]
theorem vf_ok (hg : gr a c w) : ∀ (k : Nat) (t : Int32), rf c w t → (t.toInt < 0 → -1 - t.toInt < (k : Int)) → rf c w (vf (a 17) k t) ∧ ((vf (a 17) k t).toInt < 0 → (a 17 (-1 - (vf (a 17) k t).toInt).toNat).toInt = 2147483647) := by
  intro k
  induction k with
  | zero =>
    intro t h hk
    exact ⟨h, fun z => absurd (hk z) (by have : (vf (a 17) 0 t).toInt = t.toInt := rfl; omega)⟩
  | succ k ih =>
    intro t h hk
    unfold vf
    by_cases z : t.toInt < 0 ∧ (a 17 (-1 - t.toInt).toNat).toInt ≠ 2147483647
    · rw [if_pos z]
      have h1 := h.1
      rcases hg.2 (-1 - t.toInt).toNat (by omega) with e | e
      · exact absurd e z.2
      · exact ih _ ⟨by omega, e.2⟩ (fun q => by have := hk z.1; omega)
    · rw [if_neg z]
      exact ⟨h, fun q => Classical.not_not.mp (fun e => z ⟨q, e⟩)⟩
theorem vf_rf (hg : gr a c w) {t : Int32} (h : rf c w t) : rf c w (vf (a 17) w t) := (vf_ok hg w t h (fun _ => by have := h.1; omega)).1
theorem vf_free (hg : gr a c w) {t : Int32} (h : rf c w t) (hn : (vf (a 17) w t).toInt < 0) : (a 17 (-1 - (vf (a 17) w t).toInt).toNat).toInt = 2147483647 := (vf_ok hg w t h (fun _ => by have := h.1; omega)).2 hn
theorem c_value2 (hg : gr a c w) (hw : w ≤ 12000) {p1 : Int32} : ∀ (k : Nat) (p2 : Int32), rf c w p2 → (p2.toInt < 0 → -1 - p2.toInt < (k : Int)) → K (vf (a 17) k p2) v a → mT 0 sM_136 2 [(0, .ref 33), (1, .int p1), (2, .int p2)] [] v a K := by
  intro k
  induction k with
  | zero =>
    intro p2 h hk hK
    exact r_136_2 ⟨fun _ => hK, fun h2 => absurd (hk h2) (by omega)⟩
  | succ k ih =>
    intro p2 h hk hK
    have h1 := h.1
    refine r_136_2 ⟨fun h2 => ?_, fun h2 => ?_⟩
    · unfold vf at hK
      rw [if_neg (by omega)] at hK
      exact hK
    · have e := i32_var h2
      rw [i32_varN h2, e]
      refine ⟨by omega, by omega, fun h3 => ?_, fun h3 => ⟨by omega, by omega, ?_⟩⟩
      · unfold vf at hK
        rw [if_neg (fun z => z.2 h3)] at hK
        exact hK
      · unfold vf at hK
        rw [if_pos ⟨h2, h3⟩] at hK
        rcases hg.2 (-1 - p2.toInt).toNat (by omega) with e | e
        · exact absurd e h3
        · exact ih _ ⟨by omega, e.2⟩ (fun q => by have := hk h2; omega) hK
/-- value(t) -/
theorem c_value (hg : gr a c w) (hw : w ≤ 12000) {t : Int32} (ht : rf c w t) (hK : K (vf (a 17) w t) v a) : mT 0 sM_136 0 [(0, .ref 33), (1, .int t)] [] v a K :=
  r_136_0 (c_value2 hg hw w t ht (fun _ => by have := ht.1; omega) hK)
/-- the PAIRS that wait -/
def prS (a : Nat → Nat → Int32) (c w m : Nat) : Prop := ∀ i, i < m → rf c w (a 31 i) ∧ rf c w (a 32 i)
def pO (v : Nat → Int32) (a : Nat → Nat → Int32) (v1 : Nat → Int32) (a1 : Nat → Nat → Int32) : Prop := (∀ j, j ≠ 45 → j ≠ 46 → v1 j = v j) ∧ (∀ j, j ≠ 31 → j ≠ 32 → a1 j = a j)
theorem pO.rfl' : pO v a v a := ⟨fun _ _ _ => rfl, fun _ _ _ => rfl⟩
theorem pO.trans {v2 : Nat → Int32} {a2 : Nat → Nat → Int32} (h : pO v a v1 a1) (g : pO v1 a1 v2 a2) : pO v a v2 a2 := ⟨fun j h1 h2 => (g.1 j h1 h2).trans (h.1 j h1 h2), fun j h1 h2 => (g.2 j h1 h2).trans (h.2 j h1 h2)⟩
theorem c_open75 (hg : gr a0 c w) (hc : c ≤ 26000) {x y : Int32} {X Y : Nat} (hx : x.toInt = (X : Int)) (hX : X < c) (hy : y.toInt = (Y : Int)) (hY : Y < c) : ∀ (j m : Nat) (v : Nat → Int32) (a : Nat → Nat → Int32) (p3 : Int32) (K : Int32 → (Nat → Int32) → (Nat → Nat → Int32) → Prop), p3.toInt = (j : Int) - 1 → (j : Int) ≤ (a0 15 X).toInt → (j : Int) ≤ (a0 15 Y).toInt → a 16 = a0 16 → (v 45).toInt = (m : Int) → m + j ≤ 200 → prS a c w m → (∀ v1 a1, (v1 45).toInt = ((m + j : Nat) : Int) → prS a1 c w (m + j) → pO v a v1 a1 → (v1 46) = v 46 → K 1 v1 a1) → mT 1 sM_143 75 [(0, .ref 33), (1, .int x), (2, .int y), (3, .int p3)] [] v a K := by
  intro j
  induction j with
  | zero =>
    intro m v a p3 K h3 _ _ _ h45 hm hp hK
    exact r_143_75 ⟨fun _ => hK v a h45 hp pO.rfl' rfl, fun h => absurd h (by omega)⟩
  | succ j ih =>
    intro m v a p3 K h3 hx1 hy1 e16 h45 hm hp hK
    have t3 : ((3 : Int32)).toInt = 3 := by decide
    have ex : (x * 3 + p3).toInt = ((X * 3 + j : Nat) : Int) := i32_add (by rw [i32_mul (s := (X : Int) * 3) (by rw [hx, t3]) (by omega) (by omega)]; omega) (by omega) (by omega)
    have ey : (y * 3 + p3).toInt = ((Y * 3 + j : Nat) : Int) := i32_add (by rw [i32_mul (s := (Y : Int) * 3) (by rw [hy, t3]) (by omega) (by omega)]; omega) (by omega) (by omega)
    have b1 := (hg.1 X hX).2.1
    have b2 := (hg.1 Y hY).2.1
    refine r_143_75 ⟨fun h => absurd h (by omega), fun _ => ⟨by omega, by omega, by omega, by omega, by omega, by omega, by omega, by omega, ?_⟩⟩
    rw [i32_cl ex, i32_cl ey, i32_cl h45]
    refine ih (m + 1) _ _ (p3 + (-1)) K ((i32_pred (by omega) (by omega)).trans (by omega)) (by omega) (by omega) e16 ?_ (by omega) ?_ ?_
    · show (v 45 + 1).toInt = _
      rw [i32_succ (by omega) (by omega)]
      omega
    · intro i hi
      show rf c w (upd (a 31) m (a 16 (X * 3 + j)) i) ∧ rf c w (upd (a 32) m (a 16 (Y * 3 + j)) i)
      by_cases e : i = m
      · subst e
        rw [ud_eq, ud_eq, e16]
        exact ⟨(hg.1 X hX).2.2 j (by omega), (hg.1 Y hY).2.2 j (by omega)⟩
      · rw [ud_ne e, ud_ne e]
        exact hp i (by omega)
    · intro v1 a1 q1 q2 q3 q4
      refine hK v1 a1 (q1.trans (by omega)) (by rw [show m + (j + 1) = m + 1 + j from by omega]; exact q2) ⟨fun k k1 k2 => (q3.1 k k1 k2).trans (va_ne k1), fun k k1 k2 => (q3.2 k k1 k2).trans ((va_ne k2).trans (va_ne k1))⟩ q4
/-- open(x, y) of two cells -/
theorem c_open (hg : gr a c w) (hc : c ≤ 26000) {x y : Int32} (hx : 0 ≤ x.toInt) (hX : x.toInt < (c : Int)) (hy : 0 ≤ y.toInt) (hY : y.toInt < (c : Int)) {m : Nat} (h45 : (v 45).toInt = (m : Int)) (hm : m + 3 ≤ 200) (hp : prS a c w m) (hK : ∀ r v1 a1 m1, m1 ≤ m + 3 → (v1 45).toInt = ((m1 : Nat) : Int) → prS a1 c w m1 → pO v a v1 a1 → (v1 46) = v 46 → K r v1 a1) : mT 1 sM_143 0 [(0, .ref 33), (1, .int x), (2, .int y)] [] v a K := by
  obtain ⟨X, eX⟩ : ∃ X : Nat, x.toInt = (X : Int) := ⟨x.toInt.toNat, by omega⟩
  obtain ⟨Y, eY⟩ : ∃ Y : Nat, y.toInt = (Y : Int) := ⟨y.toInt.toNat, by omega⟩
  have t3 : ((3 : Int32)).toInt = 3 := by decide
  have k0 : K 0 v a := hK 0 v a m (by omega) h45 hp pO.rfl' rfl
  have k1 : K 1 v a := hK 1 v a m (by omega) h45 hp pO.rfl' rfl
  have mx : (x * 3).toInt = (X : Int) * 3 := i32_mul (by rw [eX, t3]) (by omega) (by omega)
  have my : (y * 3).toInt = (Y : Int) * 3 := i32_mul (by rw [eY, t3]) (by omega) (by omega)
  refine r_143_0 ⟨hx, by omega, hy, by omega, fun _ => k0, fun _ => ⟨hx, by omega, hy, by omega, fun hc1 => ⟨hx, by omega, fun _ => ⟨hx, by omega, ?_⟩, fun _ => ⟨by omega, by omega, by omega, by omega, fun _ => k0, fun _ => k1⟩⟩, fun _ => k0⟩⟩
  rw [i32_cl eX] at hc1 ⊢
  rw [i32_cl eY] at hc1
  obtain ⟨g1, g2, -⟩ := hg.1 X (by omega)
  obtain ⟨j, hj⟩ : ∃ j : Nat, (a 15 X).toInt = (j : Int) := ⟨(a 15 X).toInt.toNat, by omega⟩
  refine c_open75 hg hc eX (by omega) eY (by omega) j m v a _ K ?_ (by omega) (by omega) rfl h45 (by omega) hp (fun v1 a1 q1 q2 q3 q4 => hK 1 v1 a1 (m + j) (by omega) q1 q2 q3 q4)
  exact i32_sub (by rw [hj, show ((1 : Int32)).toInt = 1 from by decide]) (by omega) (by omega)
theorem c_alike16 (hg : gr a0 c w) (hc : c ≤ 26000) (hw : w ≤ 12000) {p1 p2 : Int32} : ∀ (k m : Nat) (v : Nat → Int32) (a : Nat → Nat → Int32) (K : Int32 → (Nat → Int32) → (Nat → Nat → Int32) → Prop), (v 46).toInt = 60 - (k : Int) → (v 45).toInt = (m : Int) → m + 2 * k ≤ 121 → k ≤ 60 → prS a c w m → a 15 = a0 15 → a 16 = a0 16 → a 17 = a0 17 → (∀ r v1 a1, (r.toInt < 0 → rf c w r) → pO v a v1 a1 → K r v1 a1) → mT 2 sM_141 16 [(0, .ref 33), (1, .int p1), (2, .int p2)] [] v a K := by
  intro k
  induction k with
  | zero =>
    intro m v a K h46 h45 hm _ hp e15 e16 e17 hK
    exact r_141_16 ⟨fun _ => hK 1 v a (fun z => absurd z (by decide)) pO.rfl', fun _ => ⟨fun h => absurd h46 (by omega), fun _ => hK _ v a (fun z => absurd z (by decide)) pO.rfl'⟩⟩
  | succ k ih =>
    intro m v a K h46 h45 hm hk hp e15 e16 e17 hK
    have hga : gr a c w := hg.of e15 e16 e17
    refine r_141_16 ⟨fun _ => hK 1 v a (fun z => absurd z (by decide)) pO.rfl', fun hpos => ⟨fun _ => ?_, fun h => absurd h (by omega)⟩⟩
    obtain ⟨m, rfl⟩ : ∃ m1, m = m1 + 1 := ⟨m - 1, by omega⟩
    have e45 : (v 45 - 1).toInt = (m : Int) := i32_sub (by rw [h45, show ((1 : Int32)).toInt = 1 from by decide]; omega) (by omega) (by omega)
    have e46 : (v 46 + 1).toInt = 60 - (k : Int) := by
      rw [i32_succ (by omega) (by omega)]
      omega
    have hpm := hp m (by omega)
    have hp' : prS a c w m := fun i hi => hp i (by omega)
    rw [i32_cl e45]
    refine ⟨by omega, by omega, c_value hga hw hpm.1 ⟨show 0 ≤ (v 45 - 1).toInt by omega, show (v 45 - 1).toInt < 200 by omega, ?_⟩⟩
    show mT 0 sM_136 0 [(0, .ref 33), (1, .int (a 32 (v 45 - 1).toNatClampNeg))] [] _ a _
    rw [i32_cl e45]
    refine c_value hga hw hpm.2 ?_
    have x1 := vf_rf hga hpm.1
    have x2 := vf_rf hga hpm.2
    generalize vf (a 17) w (a 31 m) = X at *
    generalize vf (a 17) w (a 32 m) = Y at *
    have oo : pO v a (va_up (va_up v 46 (v 46 + 1)) 45 (v 45 - 1)) a := ⟨fun j h1 h2 => (va_ne h1).trans (va_ne h2), fun _ _ _ => rfl⟩
    have loop : mT 2 sM_141 16 [(0, .ref 33), (1, .int p1), (2, .int p2)] [] (va_up (va_up v 46 (v 46 + 1)) 45 (v 45 - 1)) a K := ih m _ a K e46 e45 (by omega) (by omega) hp' e15 e16 e17 (fun r v1 a1 q1 q2 => hK r v1 a1 q1 (oo.trans q2))
    refine ⟨fun hX => ⟨fun _ => ⟨fun z => absurd z (by omega), fun _ => hK X _ a (fun _ => x1) oo⟩, fun _ => loop⟩, fun hX => ⟨fun hY => ?_, fun hY => ⟨fun _ => ⟨fun _ => hK Y _ a (fun _ => x2) oo, fun z => absurd z (by omega)⟩, fun z => absurd z (by omega)⟩⟩⟩
    refine c_open hga hc hX x1.2 hY x2.2 e45 (by omega) hp' (fun r v1 a1 m1 q1 q2 q3 q4 q5 => ⟨fun _ => ?_, fun _ => hK 0 v1 a1 (fun z => absurd z (by decide)) (oo.trans q4)⟩)
    refine ih m1 v1 a1 K (by rw [q5]; exact e46) q2 (by omega) (by omega) q3 ((q4.2 15 (by decide) (by decide)).trans e15) ((q4.2 16 (by decide) (by decide)).trans e16) ((q4.2 17 (by decide) (by decide)).trans e17) (fun r v2 a2 z1 z2 => hK r v2 a2 z1 (oo.trans (q4.trans z2)))
/-- alike(x, y) -/
theorem c_alike (hg : gr a c w) (hc : c ≤ 26000) (hw : w ≤ 12000) {x y : Int32} (hx : rf c w x) (hy : rf c w y) (hK : ∀ r v1 a1, (r.toInt < 0 → rf c w r) → pO v a v1 a1 → K r v1 a1) : mT 2 sM_141 0 [(0, .ref 33), (1, .int x), (2, .int y)] [] v a K := by
  refine r_141_0 (c_alike16 hg hc hw 60 1 _ _ K rfl rfl (by decide) (by decide) ?_ rfl rfl rfl (fun r v1 a1 q1 q2 => hK r v1 a1 q1 ⟨fun j h1 h2 => (q2.1 j h1 h2).trans ((va_ne h1).trans (va_ne h2)), fun j h1 h2 => (q2.2 j h1 h2).trans ((va_ne h2).trans (va_ne h1))⟩))
  intro i hi
  obtain rfl : i = 0 := by omega
  exact ⟨hx, hy⟩
/-- find(x): one more of those to wait for, or none -/
theorem c_find2 {x : Int32} {m : Nat} (h43 : (v 43).toInt = (m : Int)) (hm : m ≤ 13) (hK : ∀ v1 a1 m1, 1 ≤ m1 → m1 ≤ m + 1 → (v1 43).toInt = (m1 : Int) → (∀ j, j ≠ 43 → v1 j = v j) → (∀ j, j ≠ 29 → a1 j = a j) → K 0 v1 a1) : ∀ (k : Nat) (p2 : Int32), p2.toInt + (k : Int) = (m : Int) → 0 ≤ p2.toInt → mT 0 sM_148 2 [(0, .ref 33), (1, .int x), (2, .int p2)] [] v a K := by
  intro k
  induction k with
  | zero =>
    intro p2 h h0
    refine r_148_2 ⟨fun _ => ⟨by omega, by omega, hK _ _ (m + 1) (by omega) (by omega) ?_ (fun j hj => va_ne hj) (fun j hj => va_ne hj)⟩, fun z => absurd z (by omega)⟩
    show (v 43 + 1).toInt = _
    rw [i32_succ (by omega) (by omega)]
    omega
  | succ k ih =>
    intro p2 h h0
    have e := i32_succ (x := p2) (by omega) (by omega)
    exact r_148_2 ⟨fun z => absurd z (by omega), fun _ => ⟨h0, by omega, fun _ => ih (p2 + 1) (by omega) (by omega), fun _ => hK v a m (by omega) (by omega) h43 (fun _ _ => rfl) (fun _ _ => rfl)⟩⟩
theorem c_find {x : Int32} {m : Nat} (h43 : (v 43).toInt = (m : Int)) (hm : m ≤ 13) (hK : ∀ v1 a1 m1, 1 ≤ m1 → m1 ≤ m + 1 → (v1 43).toInt = (m1 : Int) → (∀ j, j ≠ 43 → v1 j = v j) → (∀ j, j ≠ 29 → a1 j = a j) → K 0 v1 a1) : mT 0 sM_148 0 [(0, .ref 33), (1, .int x)] [] v a K :=
  r_148_0 (c_find2 h43 hm hK m 0 (by rw [show ((0 : Int32)).toInt = 0 from by decide]; omega) (by decide))
/-- sleepsOn(g, x) -/
theorem c_sleepsOn2 {g x : Int32} {i s : Nat} (hgi : g.toInt = (i : Int)) (hi : i < 61) (hs : (a 25 i).toInt = (s : Int)) (h14 : s ≤ 14) (hK : ∀ r : Int32, (r.toInt ≠ 0 → 0 < s) → K r v a) : ∀ (k : Nat) (p3 : Int32), p3.toInt + (k : Int) = (s : Int) → 0 ≤ p3.toInt → mT 0 sM_153 2 [(0, .ref 33), (1, .int g), (2, .int x), (3, .int p3)] [] v a K := by
  intro k
  have t : ((14 : Int32)).toInt = 14 := by decide
  have em : (g * 14).toInt = (i : Int) * 14 := i32_mul (by rw [hgi, t]) (by omega) (by omega)
  induction k with
  | zero =>
    intro p3 h h0
    refine r_153_2 ⟨by omega, by omega, fun _ => hK 0 (fun z => absurd (by decide) z), fun z => ?_⟩
    rw [i32_cl hgi, hs] at z
    exact absurd z (by omega)
  | succ k ih =>
    intro p3 h h0
    have e := i32_succ (x := p3) (by omega) (by omega)
    have ei : (g * 14 + p3).toInt = (i : Int) * 14 + p3.toInt := i32_add (by rw [em]) (by omega) (by omega)
    refine r_153_2 ⟨by omega, by omega, fun z => ?_, fun _ => ⟨by omega, by omega, fun _ => ih (p3 + 1) (by omega) (by omega), fun _ => hK 1 (fun _ => by omega)⟩⟩
    rw [i32_cl hgi, hs] at z
    exact absurd z (by omega)
theorem c_sleepsOn {g x : Int32} {i : Nat} (hgi : g.toInt = (i : Int)) (hi : i < 61) (hs : 0 ≤ (a 25 i).toInt ∧ (a 25 i).toInt ≤ 14) (hK : ∀ r : Int32, (r.toInt ≠ 0 → 0 < (a 25 i).toInt) → K r v a) : mT 0 sM_153 0 [(0, .ref 33), (1, .int g), (2, .int x)] [] v a K := by
  obtain ⟨s, es⟩ : ∃ s : Nat, (a 25 i).toInt = (s : Int) := ⟨(a 25 i).toInt.toNat, by omega⟩
  exact r_153_0 (c_sleepsOn2 hgi hi es (by omega) (fun r hr => hK r (fun z => by have := hr z; omega)) s 0 (by rw [show ((0 : Int32)).toInt = 0 from by decide]; omega) (by decide))
end GR
