/-! bear; matchOne, match: a head against a CALL -/
/-- what the VARIABLES of a text are: nothing yet, or a TERM -/
def mp (a : Nat → Nat → Int32) (c w : Nat) : Prop := ∀ u, u < 26 → (a 5 u).toInt = 2147483647 ∨ rf c w (a 5 u)
section MA
variable {v v1 : Nat → Int32} {a a1 : Nat → Nat → Int32} {T : Nat → Int32} {b n c w : Nat} {K : Int32 → (Nat → Int32) → (Nat → Nat → Int32) → Prop}
theorem g_var (hg : gr a c w) (e15 : a1 15 = a 15) (e16 : a1 16 = a 16) (e17 : ∀ x, x < w → a1 17 x = a 17 x) (ew : (a1 17 w).toInt = 2147483647) : gr a1 c (w + 1) := by
  refine ⟨fun t ht => ?_, fun x hx => ?_⟩
  · rw [e15, e16]
    obtain ⟨h1, h2, h3⟩ := hg.1 t ht
    exact ⟨h1, h2, fun i hi => (h3 i hi).mono (by omega) (by omega)⟩
  · by_cases e : x = w
    · subst e
      exact Or.inl ew
    · rw [e17 x (by omega)]
      exact hg.2 x (by omega)
theorem mp.mono (h : mp a c w) {c1 w1 : Nat} (hc : c ≤ c1) (hw : w ≤ w1) (e : a1 5 = a 5) : mp a1 c1 w1 := by
  intro u hu
  rw [e]
  exact (h u hu).imp id (fun z => z.mono hc hw)
/-- the state of bear, at VARIABLE u, W of them before -/
def beS (v0 : Nat → Int32) (a0 : Nat → Nat → Int32) (T : Nat → Int32) (n c W u : Nat) (v : Nat → Int32) (a : Nat → Nat → Int32) (w : Nat) : Prop :=
  gr a c w ∧ (v 38).toInt = (w : Int) ∧ mp a c w ∧ W ≤ w ∧ w ≤ W + u ∧ (∀ j, j ≠ 38 → v j = v0 j) ∧ (∀ j, j ≠ 5 → j ≠ 17 → a j = a0 j) ∧ (∀ u', u' < u → ∀ i, i < n → gC T n i = 65 + (u' : Int) → (a 5 u').toInt ≠ 2147483647)
theorem c_bear10 {v0 : Nat → Int32} {a0 : Nat → Nat → Int32} {W u : Nat} {p1 p2 : Int32} (h13 : (v0 13).toInt = ((b + n : Nat) : Int)) (hb : b + n ≤ 624) (hT : ∀ i, i < n → a0 1 (b + i) = T i) (hp2 : p2.toInt = (u : Int)) (hu : u < 26) (hW : W + 27 ≤ 12000) (hc : c ≤ 26000)
    (hC : ∀ v a w, beS v0 a0 T n c W (u + 1) v a w → mT 0 sM_122 2 [(0, .ref 33), (1, .int p1), (2, .int (p2 + 1))] [] v a K) : ∀ (m j w : Nat) (v : Nat → Int32) (a : Nat → Nat → Int32) (p3 : Int32), p3.toInt = ((b + j : Nat) : Int) → j + m = n → beS v0 a0 T n c W (u + 1) v a w ∨ (beS v0 a0 T n c W u v a w ∧ ∀ i, i < j → gC T n i ≠ 65 + (u : Int)) → ((a 5 u).toInt ≠ 2147483647 → beS v0 a0 T n c W (u + 1) v a w) → mT 0 sM_122 10 [(0, .ref 33), (1, .int p1), (2, .int p2), (3, .int p3)] [] v a K := by
  have up : ∀ {v : Nat → Int32} {a : Nat → Nat → Int32} {w : Nat}, beS v0 a0 T n c W u v a w → ((∃ i, i < n ∧ gC T n i = 65 + (u : Int)) → (a 5 u).toInt ≠ 2147483647) → beS v0 a0 T n c W (u + 1) v a w := by
    intro v a w h g
    obtain ⟨h1, h2, h3, h4, h5, h6, h7, h8⟩ := h
    refine ⟨h1, h2, h3, h4, by omega, h6, h7, fun u' hu' i hi hg => ?_⟩
    by_cases e : u' = u
    · subst e
      exact g ⟨i, hi, hg⟩
    · exact h8 u' (by omega) i hi hg
  intro m
  induction m with
  | zero =>
    intro j w v a p3 h3 hj hS hmet
    have hS' : beS v0 a0 T n c W (u + 1) v a w := by
      rcases hS with h | ⟨h, g⟩
      · exact h
      · exact up h (fun ⟨i, hi, e⟩ => absurd e (g i (by omega)))
    have e13 : v 13 = v0 13 := by
      obtain ⟨-, -, -, -, -, h6, -⟩ := hS'
      exact h6 13 (by decide)
    refine r_122_10 ⟨fun _ => hC v a w hS', fun z => absurd z (by rw [e13]; omega)⟩
  | succ m ih =>
    intro j w v a p3 h3 hj hS hmet
    have hfr : (∀ j, j ≠ 38 → v j = v0 j) ∧ (∀ j, j ≠ 5 → j ≠ 17 → a j = a0 j) ∧ (v 38).toInt = (w : Int) ∧ W ≤ w ∧ w ≤ W + (u + 1) ∧ gr a c w ∧ mp a c w := by
      rcases hS with h | ⟨h, g⟩
      · obtain ⟨h1, h2, h3, h4, h5, h6, h7, h8⟩ := h
        exact ⟨h6, h7, h2, h4, h5, h1, h3⟩
      · obtain ⟨h1, h2, h3, h4, h5, h6, h7, h8⟩ := h
        exact ⟨h6, h7, h2, h4, by omega, h1, h3⟩
    obtain ⟨f1, f2, f3, f4, f5, f6, f7⟩ := hfr
    have e13 : v 13 = v0 13 := f1 13 (by decide)
    have e1 : a 1 = a0 1 := f2 1 (by decide) (by decide)
    have e3 : (p3 + 1).toInt = ((b + (j + 1) : Nat) : Int) := by
      rw [i32_succ (by omega) (by omega)]
      omega
    have e65 : (65 + p2).toInt = 65 + (u : Int) := i32_add (by rw [show ((65 : Int32)).toInt = 65 from by decide, hp2]) (by omega) (by omega)
    have ex : (a 1 p3.toNatClampNeg).toInt = gC T n j := by
      rw [i32_cl h3, e1, hT _ (by omega)]
      unfold gC
      rw [if_pos (by omega)]
    refine r_122_10 ⟨fun z => absurd z (by rw [e13]; omega), fun _ => ⟨by omega, by omega, fun z => ?_, fun z => ⟨by omega, by omega, fun y => ⟨by omega, by omega, by omega, by omega, ?_⟩, fun y => ?_⟩⟩⟩
    · rw [i32_cl hp2] at z
      exact hC v a w (hmet z)
    · rw [i32_cl hp2] at z ⊢
      rw [i32_cl f3]
      have hS0 : beS v0 a0 T n c W u v a w := by
        rcases hS with h | ⟨h, g⟩
        · obtain ⟨h1, h2, h3, h4, h5, h6, h7, h8⟩ := h
          exfalso
          rw [ex, e65] at y
          exact h8 u (by omega) j (by omega) y z
        · exact h
      obtain ⟨s1, s2, s3, s4, s5, s6, s7, s8⟩ := hS0
      have en : True → ((-1) - v 38).toInt = -1 - (w : Int) := fun _ => i32_sub (by rw [f3, show ((-1 : Int32)).toInt = -1 from by decide]) (by omega) (by omega)
      have hS1 : beS v0 a0 T n c W (u + 1) (va_up v 38 (v 38 + 1)) (va_up (va_up a 5 (upd (a 5) u ((-1) - v 38))) 17 (upd (a 17) w 2147483647)) (w + 1) := by
        refine ⟨g_var s1 rfl rfl (fun x hx => ud_ne (by omega)) (by show (upd (a 17) w 2147483647 w).toInt = _; rw [ud_eq]; decide), ?_, fun u' hu' => ?_, by omega, by omega, fun j hj => (va_ne hj).trans (s6 j hj), fun j h1 h2 => (va_ne h2).trans ((va_ne h1).trans (s7 j h1 h2)), fun u' hu' i hi hg => ?_⟩
        · show (v 38 + 1).toInt = _
          rw [i32_succ (by omega) (by omega)]
          omega
        · show (upd (a 5) u ((-1) - v 38) u').toInt = _ ∨ rf c (w + 1) (upd (a 5) u ((-1) - v 38) u')
          by_cases e : u' = u
          · subst e
            rw [ud_eq]
            exact Or.inr ⟨by rw [en trivial]; omega, by rw [en trivial]; omega⟩
          · rw [ud_ne e]
            exact (s3 u' hu').imp id (fun z => z.mono (by omega) (by omega))
        · show (upd (a 5) u ((-1) - v 38) u').toInt ≠ _
          by_cases e : u' = u
          · subst e
            rw [ud_eq, en trivial]
            omega
          · rw [ud_ne e]
            exact s8 u' (by omega) i hi hg
      exact ih (j + 1) (w + 1) _ _ (p3 + 1) e3 (by omega) (Or.inl hS1) (fun _ => hS1)
    · rw [ex, e65] at y
      refine ih (j + 1) w v a (p3 + 1) e3 (by omega) (hS.imp id (fun h => ⟨h.1, fun i hi => ?_⟩)) hmet
      by_cases e : i = j
      · subst e
        exact y
      · exact h.2 i (by omega)
theorem c_bear2 {v0 : Nat → Int32} {a0 : Nat → Nat → Int32} {W : Nat} {p1 : Int32} (h13 : (v0 13).toInt = ((b + n : Nat) : Int)) (hb : b + n ≤ 624) (hT : ∀ i, i < n → a0 1 (b + i) = T i) (hp1 : p1.toInt = (b : Int)) (hW : W + 27 ≤ 12000) (hc : c ≤ 26000)
    (hC : ∀ v a w, beS v0 a0 T n c W 26 v a w → K 0 v a) : ∀ (m u w : Nat) (v : Nat → Int32) (a : Nat → Nat → Int32) (p2 : Int32), p2.toInt = (u : Int) → u + m = 26 → beS v0 a0 T n c W u v a w → mT 0 sM_122 2 [(0, .ref 33), (1, .int p1), (2, .int p2)] [] v a K := by
  intro m
  induction m with
  | zero =>
    intro u w v a p2 h2 hu hS
    obtain rfl : u = 26 := by omega
    exact r_122_2 ⟨fun _ => hC v a w hS, fun z => absurd z (by omega)⟩
  | succ m ih =>
    intro u w v a p2 h2 hu hS
    refine r_122_2 ⟨fun z => absurd z (by omega), fun _ => ?_⟩
    refine c_bear10 h13 hb hT h2 (by omega) hW hc (fun v1 a1 w1 h1 => ih (u + 1) w1 v1 a1 (p2 + 1) (by rw [i32_succ (by omega) (by omega)]; omega) (by omega) h1) n 0 w v a p1 (by rw [hp1]; rfl) (by omega) (Or.inr ⟨hS, fun i hi => absurd hi (by omega)⟩) (fun z => ?_)
    obtain ⟨h1, h2, h3, h4, h5, h6, h7, h8⟩ := hS
    refine ⟨h1, h2, h3, h4, by omega, h6, h7, fun u' hu' i hi hg => ?_⟩
    by_cases e : u' = u
    · subst e
      exact z
    · exact h8 u' (by omega) i hi hg
/-- bear: every VARIABLE of the text is something -/
theorem c_bear {p1 : Int32} (h13 : (v 13).toInt = ((b + n : Nat) : Int)) (hb : b + n ≤ 624) (hT : ∀ i, i < n → a 1 (b + i) = T i) (hp1 : p1.toInt = (b : Int)) (hw : w + 27 ≤ 12000) (hc : c ≤ 26000) (hg : gr a c w) (h38 : (v 38).toInt = (w : Int)) (hm : mp a c w)
    (hK : ∀ v1 a1 w1, w ≤ w1 → w1 ≤ w + 26 → gr a1 c w1 → (v1 38).toInt = (w1 : Int) → mp a1 c w1 → (∀ i, i < n → isU T n i → rf c w1 (a1 5 (gC T n i - 65).toNat)) → (∀ j, j ≠ 38 → v1 j = v j) → (∀ j, j ≠ 5 → j ≠ 17 → a1 j = a j) → K 0 v1 a1) : mT 0 sM_122 0 [(0, .ref 33), (1, .int p1)] [] v a K := by
  refine r_122_0 (c_bear2 (v0 := v) (a0 := a) (W := w) h13 hb hT hp1 hw hc (fun v1 a1 w1 h => ?_) 26 0 w v a 0 (by decide) (by omega) ⟨hg, h38, hm, by omega, by omega, fun _ _ => rfl, fun _ _ _ => rfl, fun u' hu' => absurd hu' (by omega)⟩)
  obtain ⟨h1, h2, h3, h4, h5, h6, h7, h8⟩ := h
  refine hK v1 a1 w1 h4 h5 h1 h2 h3 (fun i hi hu => ?_) h6 h7
  obtain ⟨u1, u2⟩ := hu
  have h9 := h8 (gC T n i - 65).toNat (by omega) i hi (by omega)
  exact (h3 (gC T n i - 65).toNat (by omega)).resolve_left h9
end MA
