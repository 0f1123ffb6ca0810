/-! THE GOALS: rows, those asleep, the spare ones; put, sleep -/
def cn (f : Nat → Int32) : Nat → Nat
  | 0 => 0
  | k + 1 => cn f k + (if (f k).toInt = 0 then 0 else 1)
theorem cn_s (f : Nat → Int32) (k : Nat) : cn f (k + 1) = cn f k + (if (f k).toInt = 0 then 0 else 1) := rfl
theorem cn_le (f : Nat → Int32) : ∀ k, cn f k ≤ k := by
  intro k
  induction k with
  | zero => exact Nat.le_refl _
  | succ k ih =>
    rw [cn_s]
    split <;> omega
theorem cn_free {f : Nat → Int32} : ∀ k, cn f k < k → ∃ i, i < k ∧ (f i).toInt = 0 := by
  intro k
  induction k with
  | zero => intro h; omega
  | succ k ih =>
    intro h
    rw [cn_s] at h
    by_cases z : (f k).toInt = 0
    · exact ⟨k, by omega, z⟩
    · rw [if_neg z] at h
      obtain ⟨i, hi, e⟩ := ih (by omega)
      exact ⟨i, by omega, e⟩
theorem cn_out {f : Nat → Int32} {i : Nat} {x : Int32} : ∀ k, k ≤ i → cn (upd f i x) k = cn f k := by
  intro k
  induction k with
  | zero => intro _; rfl
  | succ k ih =>
    intro h
    rw [cn_s, cn_s, ih (by omega), ud_ne (by omega)]
theorem cn_set {f : Nat → Int32} {i : Nat} {x : Int32} (h0 : (f i).toInt = 0) (hx : x.toInt ≠ 0) : ∀ k, i < k → cn (upd f i x) k = cn f k + 1 := by
  intro k
  induction k with
  | zero => intro h; omega
  | succ k ih =>
    intro h
    rw [cn_s, cn_s]
    by_cases e : i = k
    · subst e
      rw [cn_out _ (Nat.le_refl _), ud_eq, if_pos h0, if_neg hx]
    · rw [ih (by omega), ud_ne (by omega)]
      omega
theorem cn_clr {f : Nat → Int32} {i : Nat} {x : Int32} (h0 : (f i).toInt ≠ 0) (hx : x.toInt = 0) : ∀ k, i < k → cn (upd f i x) k + 1 = cn f k := by
  intro k
  induction k with
  | zero => intro h; omega
  | succ k ih =>
    intro h
    rw [cn_s, cn_s]
    by_cases e : i = k
    · subst e
      rw [cn_out _ (Nat.le_refl _), ud_eq, if_neg h0, if_pos hx]
    · have := ih (by omega)
      rw [ud_ne (by omega)]
      omega
theorem cn_keep {f : Nat → Int32} {i : Nat} {x : Int32} (h0 : (f i).toInt = 0) (hx : x.toInt = 0) : ∀ k, cn (upd f i x) k = cn f k := by
  intro k
  induction k with
  | zero => rfl
  | succ k ih =>
    rw [cn_s, cn_s, ih]
    by_cases e : k = i
    · subst e
      rw [ud_eq, if_pos h0, if_pos hx]
    · rw [ud_ne e]
theorem cn_pos {f : Nat → Int32} {i : Nat} (h : (f i).toInt ≠ 0) : ∀ k, i < k → 1 ≤ cn f k := by
  intro k
  induction k with
  | zero => intro h; omega
  | succ k ih =>
    intro hk
    rw [cn_s]
    by_cases e : i = k
    · subst e
      rw [if_neg h]
      omega
    · have := ih (by omega)
      omega
def sz (a : Nat → Nat → Int32) (l : Nat) : Nat := (a 28 l).toInt.toNat
def sS (a : Nat → Nat → Int32) : Nat := sz a 0 + sz a 1 + sz a 2 + sz a 3
/-- the rows hold GOALS with P, each once -/
def rW (a : Nat → Nat → Int32) (P : Nat → Prop) : Prop := (∀ l, l < 4 → 0 ≤ (a 28 l).toInt) ∧ (∀ l, l < 4 → ∀ i, i < sz a l → ∃ g : Nat, g < 61 ∧ (a 27 (l * 61 + i)).toInt = (g : Int) ∧ P g) ∧ (∀ l l', l < 4 → l' < 4 → ∀ i i', i < sz a l → i' < sz a l' → (a 27 (l * 61 + i)).toInt = (a 27 (l' * 61 + i')).toInt → l = l' ∧ i = i')
/-- a GOAL's own -/
def gf (a : Nat → Nat → Int32) (c w g : Nat) : Prop := (0 ≤ (a 19 g).toInt ∧ (a 19 g).toInt < 4) ∧ rf c w (a 20 g) ∧ ((a 18 g).toInt = 0 → 0 ≤ (a 20 g).toInt) ∧ ((a 18 g).toInt ≠ 0 → rf c w (a 21 g)) ∧ ((a 18 g).toInt = 2 → rf c w (a 22 g))
/-- all GOALS; hd: those in hand, e of them -/
def gi (v : Nat → Int32) (a : Nat → Nat → Int32) (c w : Nat) (hd : Nat → Prop) (e : Nat) : Prop :=
  rW a (fun g => (a 30 g).toInt ≠ 0 ∧ (a 25 g).toInt = 0 ∧ ¬ hd g) ∧ (∃ z : Nat, (v 40).toInt = (z : Int) ∧ cn (a 25) 61 = z ∧ cn (a 30) 61 = sS a + z + e ∧ sS a + z + e ≤ 60) ∧
  (∀ g, g < 61 → 0 ≤ (a 25 g).toInt ∧ (a 25 g).toInt ≤ 14 ∧ ((a 25 g).toInt ≠ 0 → (a 30 g).toInt ≠ 0)) ∧ (∀ g, g < 61 → (a 30 g).toInt ≠ 0 → gf a c w g)
section GO
variable {v v1 : Nat → Int32} {a a1 : Nat → Nat → Int32} {c w c1 w1 : Nat} {K : Int32 → (Nat → Int32) → (Nat → Nat → Int32) → Prop}
theorem sz_eq {l : Nat} (h : 0 ≤ (a 28 l).toInt) : (a 28 l).toInt = ((sz a l : Nat) : Int) := by
  unfold sz
  omega
theorem sz_up {l : Nat} {x : Int32} (e : a1 28 = upd (a 28) l x) (l' : Nat) : sz a1 l' = if l' = l then x.toInt.toNat else sz a l' := by
  unfold sz
  rw [e]
  by_cases h : l' = l
  · subst h
    rw [ud_eq, if_pos rfl]
  · rw [ud_ne h, if_neg h]
theorem sS_inc {l : Nat} {x : Int32} (hl : l < 4) (e : a1 28 = upd (a 28) l x) (hx : x.toInt = ((sz a l + 1 : Nat) : Int)) : sS a1 = sS a + 1 := by
  unfold sS
  rw [sz_up e 0, sz_up e 1, sz_up e 2, sz_up e 3]
  have hx' : x.toInt.toNat = sz a l + 1 := by omega
  rw [hx']
  rcases (by omega : l = 0 ∨ l = 1 ∨ l = 2 ∨ l = 3) with rfl | rfl | rfl | rfl
  · rw [if_pos rfl, if_neg (show ¬ (1 = 0) by decide), if_neg (show ¬ (2 = 0) by decide), if_neg (show ¬ (3 = 0) by decide)]
    omega
  · rw [if_neg (show ¬ (0 = 1) by decide), if_pos rfl, if_neg (show ¬ (2 = 1) by decide), if_neg (show ¬ (3 = 1) by decide)]
    omega
  · rw [if_neg (show ¬ (0 = 2) by decide), if_neg (show ¬ (1 = 2) by decide), if_pos rfl, if_neg (show ¬ (3 = 2) by decide)]
    omega
  · rw [if_neg (show ¬ (0 = 3) by decide), if_neg (show ¬ (1 = 3) by decide), if_neg (show ¬ (2 = 3) by decide), if_pos rfl]
    omega
theorem sS_dec {l : Nat} {x : Int32} (hl : l < 4) (e : a1 28 = upd (a 28) l x) (hx : x.toInt + 1 = ((sz a l : Nat) : Int)) (h0 : 0 ≤ x.toInt) : sS a1 + 1 = sS a := by
  unfold sS
  rw [sz_up e 0, sz_up e 1, sz_up e 2, sz_up e 3]
  have hx' : x.toInt.toNat + 1 = sz a l := by omega
  rcases (by omega : l = 0 ∨ l = 1 ∨ l = 2 ∨ l = 3) with rfl | rfl | rfl | rfl
  · rw [if_pos rfl, if_neg (show ¬ (1 = 0) by decide), if_neg (show ¬ (2 = 0) by decide), if_neg (show ¬ (3 = 0) by decide)]
    omega
  · rw [if_neg (show ¬ (0 = 1) by decide), if_pos rfl, if_neg (show ¬ (2 = 1) by decide), if_neg (show ¬ (3 = 1) by decide)]
    omega
  · rw [if_neg (show ¬ (0 = 2) by decide), if_neg (show ¬ (1 = 2) by decide), if_pos rfl, if_neg (show ¬ (3 = 2) by decide)]
    omega
  · rw [if_neg (show ¬ (0 = 3) by decide), if_neg (show ¬ (1 = 3) by decide), if_neg (show ¬ (2 = 3) by decide), if_pos rfl]
    omega
theorem sz_le {l : Nat} (hl : l < 4) : sz a l ≤ sS a := by
  unfold sS
  rcases (by omega : l = 0 ∨ l = 1 ∨ l = 2 ∨ l = 3) with rfl | rfl | rfl | rfl <;> omega
/-- one more GOAL at the end of a row -/
theorem rW_enter {P P' : Nat → Prop} {l g : Nat} {G x : Int32} (h : rW a P) (hl : l < 4) (hg : g < 61) (hb : ∀ l, l < 4 → sz a l ≤ 60) (hn : ¬ P g) (e27 : a1 27 = upd (a 27) (l * 61 + sz a l) G) (hG : G.toInt = (g : Int)) (e28 : a1 28 = upd (a 28) l x) (hx : x.toInt = ((sz a l + 1 : Nat) : Int)) (hP : ∀ g', P g' → P' g') (hPg : P' g) : rW a1 P' := by
  obtain ⟨h1, h2, h3⟩ := h
  have old : ∀ l', l' < 4 → ∀ i, i < sz a l' → a1 27 (l' * 61 + i) = a 27 (l' * 61 + i) := by
    intro l' hl' i hi
    have b1 := hb l' hl'
    have b2 := hb l hl
    have e : l' * 61 + i ≠ l * 61 + sz a l := by
      intro e
      by_cases e2 : l' = l
      · subst e2
        omega
      · rcases Nat.lt_or_gt_of_ne e2 with q | q <;> omega
    rw [e27, ud_ne e]
  have new : a1 27 (l * 61 + sz a l) = G := by rw [e27, ud_eq]
  have s1 : sz a1 l = sz a l + 1 := by
    rw [sz_up e28, if_pos rfl]
    omega
  have s2 : ∀ l', l' ≠ l → sz a1 l' = sz a l' := fun l' hl' => by rw [sz_up e28, if_neg hl']
  have kinds : ∀ l', l' < 4 → ∀ i, i < sz a1 l' → (i < sz a l' ∧ a1 27 (l' * 61 + i) = a 27 (l' * 61 + i)) ∨ (l' = l ∧ i = sz a l ∧ a1 27 (l' * 61 + i) = G) := by
    intro l' hl' i hi
    by_cases e : l' = l
    · subst e
      by_cases q : i < sz a l'
      · exact Or.inl ⟨q, old l' hl' i q⟩
      · obtain rfl : i = sz a l' := by omega
        exact Or.inr ⟨rfl, rfl, new⟩
    · rw [s2 l' e] at hi
      exact Or.inl ⟨hi, old l' hl' i hi⟩
  refine ⟨fun l' hl' => ?_, fun l' hl' i hi => ?_, fun l' l'' hl' hl'' i i' hi hi' he => ?_⟩
  · rw [e28]
    by_cases e : l' = l
    · subst e
      rw [ud_eq]
      omega
    · rw [ud_ne e]
      exact h1 l' hl'
  · rcases kinds l' hl' i hi with ⟨q1, q2⟩ | ⟨q1, q2, q3⟩
    · obtain ⟨g', k1, k2, k3⟩ := h2 l' hl' i q1
      exact ⟨g', k1, by rw [q2]; exact k2, hP g' k3⟩
    · exact ⟨g, hg, by rw [q3]; exact hG, hPg⟩
  · rcases kinds l' hl' i hi with ⟨q1, q2⟩ | ⟨q1, q2, q3⟩
    · rcases kinds l'' hl'' i' hi' with ⟨r1, r2⟩ | ⟨r1, r2, r3⟩
      · rw [q2, r2] at he
        exact h3 l' l'' hl' hl'' i i' q1 r1 he
      · exfalso
        rw [q2, r3] at he
        obtain ⟨g', k1, k2, k3⟩ := h2 l' hl' i q1
        have : g' = g := by omega
        subst this
        exact hn k3
    · rcases kinds l'' hl'' i' hi' with ⟨r1, r2⟩ | ⟨r1, r2, r3⟩
      · exfalso
        rw [q3, r2] at he
        obtain ⟨g', k1, k2, k3⟩ := h2 l'' hl'' i' r1
        have : g' = g := by omega
        subst this
        exact hn k3
      · exact ⟨by omega, by omega⟩
theorem rW.imp {P P' : Nat → Prop} (h : rW a P) (e27 : a1 27 = a 27) (e28 : a1 28 = a 28) (hP : ∀ g, g < 61 → P g → P' g) : rW a1 P' := by
  unfold rW sz at *
  rw [e27, e28]
  refine ⟨h.1, fun l hl i hi => ?_, h.2.2⟩
  obtain ⟨g, k1, k2, k3⟩ := h.2.1 l hl i hi
  exact ⟨g, k1, k2, hP g k1 k3⟩
theorem gf.of {g : Nat} (h : gf a c w g) (hc : c ≤ c1) (hw : w ≤ w1) (e18 : a1 18 = a 18) (e19 : a1 19 = a 19) (e20 : a1 20 = a 20) (e21 : a1 21 = a 21) (e22 : a1 22 = a 22) : gf a1 c1 w1 g := by
  unfold gf at *
  rw [e18, e19, e20, e21, e22]
  exact ⟨h.1, h.2.1.mono hc hw, h.2.2.1, fun z => (h.2.2.2.1 z).mono hc hw, fun z => (h.2.2.2.2 z).mono hc hw⟩
theorem gi.of {hd : Nat → Prop} {e : Nat} (h : gi v a c w hd e) (hc : c ≤ c1) (hw : w ≤ w1) (e40 : v1 40 = v 40) (ea : ∀ j, j = 18 ∨ j = 19 ∨ j = 20 ∨ j = 21 ∨ j = 22 ∨ j = 25 ∨ j = 27 ∨ j = 28 ∨ j = 30 → a1 j = a j) : gi v1 a1 c1 w1 hd e := by
  have e18 := ea 18 (by decide)
  have e19 := ea 19 (by decide)
  have e20 := ea 20 (by decide)
  have e21 := ea 21 (by decide)
  have e22 := ea 22 (by decide)
  have e25 := ea 25 (by decide)
  have e27 := ea 27 (by decide)
  have e28 := ea 28 (by decide)
  have e30 := ea 30 (by decide)
  obtain ⟨h1, h2, h3, h4⟩ := h
  refine ⟨h1.imp e27 e28 (fun g _ q => by rw [e30, e25]; exact q), ?_, fun g hg => by rw [e25, e30]; exact h3 g hg, fun g hg q => (h4 g hg (by rw [e30] at q; exact q)).of hc hw e18 e19 e20 e21 e22⟩
  unfold sS sz at *
  rw [e40, e25, e30, e28]
  exact h2
theorem gi.bound {hd : Nat → Prop} {e : Nat} (h : gi v a c w hd e) : ∀ l, l < 4 → sz a l ≤ 60 := by
  obtain ⟨-, ⟨z, -, -, -, h5⟩, -⟩ := h
  intro l hl
  have := sz_le (a := a) hl
  omega
/-- what inRows() is -/
theorem inR {P : Nat → Prop} (h : rW a P) (hb : sS a ≤ 100) : (((((a 28) 0) + ((a 28) 1)) + ((a 28) 2)) + ((a 28) 3)).toInt = ((sS a : Nat) : Int) := by
  have e0 := sz_eq (h.1 0 (by decide))
  have e1 := sz_eq (h.1 1 (by decide))
  have e2 := sz_eq (h.1 2 (by decide))
  have e3 := sz_eq (h.1 3 (by decide))
  unfold sS at *
  have f1 : ((a 28 0) + (a 28 1)).toInt = ((sz a 0 + sz a 1 : Nat) : Int) := i32_add (by rw [e0, e1]; omega) (by omega) (by omega)
  have f2 : (((a 28 0) + (a 28 1)) + (a 28 2)).toInt = ((sz a 0 + sz a 1 + sz a 2 : Nat) : Int) := i32_add (by rw [f1, e2]; omega) (by omega) (by omega)
  exact i32_add (by rw [f2, e3]; omega) (by omega) (by omega)
/-- put: a GOAL more, or one too many -/
theorem c_put23 {p1 p2 p3 p4 p5 p6 : Int32} (hg : gi v a c w (fun _ => False) 0) (h59 : ∀ z : Nat, (v 40).toInt = (z : Int) → sS a + z ≤ 59) (hl : 0 ≤ p2.toInt ∧ p2.toInt < 4) (h3 : rf c w p3) (h30 : p1.toInt = 0 → 0 ≤ p3.toInt) (h4 : p1.toInt ≠ 0 → rf c w p4) (h5 : p1.toInt = 2 → rf c w p5)
    (hK : ∀ a1, gi v a1 c w (fun _ => False) 0 → (∀ j, j ≠ 18 → j ≠ 19 → j ≠ 20 → j ≠ 21 → j ≠ 22 → j ≠ 23 → j ≠ 25 → j ≠ 27 → j ≠ 28 → j ≠ 30 → a1 j = a j) → K 0 v a1) {i0 : Nat} (hi0 : i0 < 61) (hfree : (a 30 i0).toInt = 0) : ∀ (m u : Nat) (p7 : Int32), p7.toInt = (u : Int) → u + m = i0 → mT 1 sM_130 23 [(0, .ref 33), (1, .int p1), (2, .int p2), (3, .int p3), (4, .int p4), (5, .int p5), (6, .int p6), (7, .int p7)] [] v a K := by
  have hbd := hg.bound
  have hg0 := hg
  obtain ⟨h1, ⟨z, z1, z2, z3, z4⟩, h3', h4'⟩ := hg
  have z59 := h59 z z1
  obtain ⟨l, el⟩ : ∃ l : Nat, p2.toInt = (l : Int) := ⟨p2.toInt.toNat, by omega⟩
  have hl4 : l < 4 := by omega
  have es := sz_eq (h1.1 l hl4)
  have sl := sz_le (a := a) hl4
  have t61 : ((61 : Int32)).toInt = 61 := by decide
  have ei : (p2 * 61 + a 28 l).toInt = ((l * 61 + sz a l : Nat) : Int) := i32_add (by rw [i32_mul (s := (l : Int) * 61) (by rw [el, t61]) (by omega) (by omega), es]; omega) (by omega) (by omega)
  have hit : ∀ (u : Nat) (p7 : Int32), p7.toInt = (u : Int) → u < 61 → (a 30 u).toInt = 0 → mT 1 sM_130 23 [(0, .ref 33), (1, .int p1), (2, .int p2), (3, .int p3), (4, .int p4), (5, .int p5), (6, .int p6), (7, .int p7)] [] v a K := by
    intro u p7 hu hu6 hz
    refine r_130_23 ⟨by omega, by omega, fun _ => ?_, fun y => ?_⟩
    · rw [i32_cl hu, ud_eq, i32_cl el, ei, i32_cl ei]
      refine ⟨by omega, by omega, by omega, by omega, by omega, by omega, by omega, by omega, by omega, by omega, by omega, by omega, by omega, by omega, by omega, by omega, by omega, by omega, by omega, by omega, by omega, by omega, by omega, by omega, by omega, by omega, hK _ ?_ (fun j q1 q2 q3 q4 q5 q6 q7 q8 q9 q10 => ?_)⟩
      · have hsl : (a 25 u).toInt = 0 := by
          by_cases y : (a 25 u).toInt = 0
          · exact y
          · exact absurd hz ((h3' u hu6).2.2 y)
        have ex : (a 28 l + 1).toInt = ((sz a l + 1 : Nat) : Int) := by
          rw [i32_succ (by omega) (by omega), es]
          omega
        refine ⟨?_, ⟨z, z1, ?_, ?_, ?_⟩, fun g hg6 => ?_, fun g hg6 q => ?_⟩
        · refine rW_enter (a := a) (P := fun g => (a 30 g).toInt ≠ 0 ∧ (a 25 g).toInt = 0 ∧ ¬ False) (l := l) (g := u) (G := p7) (x := a 28 l + 1) h1 hl4 hu6 hbd (fun q => q.1 hz) rfl hu rfl ex (fun g' q => ?_) ?_
          · have ne : g' ≠ u := fun y => by subst y; exact q.1 hz
            refine ⟨?_, ?_, q.2.2⟩
            · show (upd (a 30) u 1 g').toInt ≠ 0
              rw [ud_ne ne]
              exact q.1
            · show (upd (a 25) u 0 g').toInt = 0
              rw [ud_ne ne]
              exact q.2.1
          · refine ⟨?_, ?_, fun y => y⟩
            · show (upd (a 30) u 1 u).toInt ≠ 0
              rw [ud_eq]
              decide
            · show (upd (a 25) u 0 u).toInt = 0
              rw [ud_eq]
              decide
        · show cn (upd (a 25) u 0) 61 = z
          rw [cn_keep hsl (by decide)]
          exact z2
        · show cn (upd (a 30) u 1) 61 = _
          rw [cn_set hz (by decide) 61 hu6, sS_inc (a := a) (l := l) hl4 rfl ex, z3]
          omega
        · rw [sS_inc (a := a) (l := l) hl4 rfl ex]
          omega
        · show 0 ≤ (upd (a 25) u 0 g).toInt ∧ (upd (a 25) u 0 g).toInt ≤ 14 ∧ ((upd (a 25) u 0 g).toInt ≠ 0 → (upd (a 30) u 1 g).toInt ≠ 0)
          by_cases e : g = u
          · subst e
            rw [ud_eq, ud_eq]
            decide
          · rw [ud_ne e, ud_ne e]
            exact h3' g hg6
        · have q' : (upd (a 30) u 1 g).toInt ≠ 0 := q
          show (0 ≤ (upd (a 19) u p2 g).toInt ∧ (upd (a 19) u p2 g).toInt < 4) ∧ rf c w (upd (a 20) u p3 g) ∧ ((upd (a 18) u p1 g).toInt = 0 → 0 ≤ (upd (a 20) u p3 g).toInt) ∧ ((upd (a 18) u p1 g).toInt ≠ 0 → rf c w (upd (a 21) u p4 g)) ∧ ((upd (a 18) u p1 g).toInt = 2 → rf c w (upd (a 22) u p5 g))
          by_cases e : g = u
          · subst e
            rw [ud_eq, ud_eq, ud_eq, ud_eq, ud_eq]
            exact ⟨hl, h3, h30, h4, h5⟩
          · rw [ud_ne e] at q'
            rw [ud_ne e, ud_ne e, ud_ne e, ud_ne e, ud_ne e]
            exact h4' g hg6 q'
      · rw [va_ne q9, va_ne q8, va_ne q7, va_ne q6, va_ne q5, va_ne q4, va_ne q3, va_ne q2, va_ne q1, va_ne q10]
    · rw [i32_cl hu] at y
      exact absurd hz y
  intro m
  induction m with
  | zero =>
    intro u p7 hu hm
    obtain rfl : u = i0 := by omega
    exact hit u p7 hu hi0 hfree
  | succ m ih =>
    intro u p7 hu hm
    by_cases hz : (a 30 u).toInt = 0
    · exact hit u p7 hu (by omega) hz
    · refine r_130_23 ⟨by omega, by omega, fun y => ?_, fun _ => ih (u + 1) (p7 + 1) (by rw [i32_succ (by omega) (by omega)]; omega) (by omega)⟩
      rw [i32_cl hu] at y
      exact absurd y hz
theorem c_put {p1 p2 p3 p4 p5 p6 : Int32} (hg : gi v a c w (fun _ => False) 0) (hl : 0 ≤ p2.toInt ∧ p2.toInt < 4) (h3 : rf c w p3) (h30 : p1.toInt = 0 → 0 ≤ p3.toInt) (h4 : p1.toInt ≠ 0 → rf c w p4) (h5 : p1.toInt = 2 → rf c w p5)
    (hK : ∀ a1, gi v a1 c w (fun _ => False) 0 → (∀ j, j ≠ 18 → j ≠ 19 → j ≠ 20 → j ≠ 21 → j ≠ 22 → j ≠ 23 → j ≠ 25 → j ≠ 27 → j ≠ 28 → j ≠ 30 → a1 j = a j) → K 0 v a1) (hT : K 0 (va_up v 11 2) a) : mT 1 sM_130 0 [(0, .ref 33), (1, .int p1), (2, .int p2), (3, .int p3), (4, .int p4), (5, .int p5), (6, .int p6)] [] v a K := by
  have hg0 := hg
  obtain ⟨h1, ⟨z, z1, z2, z3, z4⟩, -⟩ := hg
  have eR := inR h1 (by omega)
  have eT : ((((((a 28) 0) + ((a 28) 1)) + ((a 28) 2)) + ((a 28) 3)) + v 40).toInt = ((sS a + z : Nat) : Int) := i32_add (by rw [eR, z1]; omega) (by omega) (by omega)
  obtain ⟨i0, hi0, hf⟩ := cn_free (f := a 30) 61 (by omega)
  refine r_130_0 ⟨fun y => ?_, fun _ => hT⟩
  rw [eT] at y
  exact c_put23 hg0 (fun z' hz' => by omega) hl h3 h30 h4 h5 hK hi0 hf i0 0 0 (by decide) (by omega)
end GO
