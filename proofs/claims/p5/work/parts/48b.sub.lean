/-! build, by the tree of the text -/
theorem i32_pm {x : Int32} (h0 : 0 ≤ x.toInt) (h1 : x.toInt ≤ 1000000) : x + 1 + (-1) = x := by
  have e : (x + 1).toInt = x.toInt + 1 := i32_succ h0 h1
  have e2 : (x + 1 + (-1)).toInt = x.toInt := i32_add (by rw [e, show ((-1 : Int32)).toInt = -1 from by decide]; omega) (by omega) (by omega)
  exact Int32.toInt_inj.mp e2
section BS
variable {T : Nat → Int32} {b n w : Nat} {K : Int32 → (Nat → Int32) → (Nat → Nat → Int32) → Prop}
/-- what a part wants: the text at p, k brackets open, room -/
def bQ (v : Nat → Int32) (a : Nat → Nat → Int32) (T : Nat → Int32) (b n p q c w k : Nat) : Prop :=
  tV v a T b n p ∧ gr a c w ∧ (v 37).toInt = (c : Int) ∧ c + q ≤ p + 26000 ∧ (∀ i, p ≤ i → i < q → isU T n i → rf c w (a 5 (gC T n i - 65).toNat)) ∧ (1 ≤ k → ∃ f : Nat, (a 3 k).toInt = (f : Int) ∧ f < c ∧ (a 15 f).toInt ≤ 2)
def bSub (T : Nat → Int32) (b n w d : Nat) : Prop := ∀ (k p q c : Nat) (p1 : Int32) (v : Nat → Int32) (a : Nat → Nat → Int32) (K : Int32 → (Nat → Int32) → (Nat → Nat → Int32) → Prop), gD T n d p q → p1.toInt = (k : Int) → k + d ≤ 5 → bQ v a T b n p q c w k →
  (∀ r v1 a1 c1, bP v a T b n p q c w k r v1 a1 c1 → mT 3 sM_124 73 [(0, .ref 33), (1, .int p1), (3, .int r)] [] v1 a1 K) → mT 3 sM_124 2 [(0, .ref 33), (1, .int p1)] [] v a K
/-- the ARGUMENTS of f, j of them, up to behind the bracket -/
theorem c_args {d : Nat} (ih : bSub T b n w d) {k : Nat} {p1 : Int32} (hp1 : p1.toInt = ((k + 1 : Nat) : Int)) (hkd : k + 1 + d ≤ 5) {F : Int32} {f : Nat} (hF : F.toInt = (f : Int)) : ∀ (j p q c : Nat) (v : Nat → Int32) (a : Nat → Nat → Int32), gN T n (gD T n d) j p q → tV v a T b n p → gr a c w → (v 37).toInt = (c : Int) → c + q ≤ p + 26000 → (∀ i, p ≤ i → i < q → isU T n i → rf c w (a 5 (gC T n i - 65).toNat)) → a 3 (k + 1) = F → f < c → (a 15 f).toInt + (j : Int) ≤ 3 →
    (∀ v1 a1 c1, tV v1 a1 T b n q → gr a1 c1 w → (v1 37).toInt = (c1 : Int) → c ≤ c1 → c1 + p ≤ c + q → (∀ i, i ≠ 12 → i ≠ 37 → v1 i = v i) → (∀ i, i ≠ 3 → i ≠ 14 → i ≠ 15 → i ≠ 16 → a1 i = a i) → (∀ i, i ≤ k + 1 → a1 3 i = a 3 i) → (∀ t, t < c → t ≠ f → a1 15 t = a 15 t) → (∀ e, e ≤ f → cU a a1 e) → mT 3 sM_124 73 [(0, .ref 33), (1, .int (p1 + (-1))), (3, .int F)] [] v1 a1 K) →
    mT 3 sM_124 2 [(0, .ref 33), (1, .int p1)] [] v a K := by
  intro j
  induction j with
  | zero => intro p q c v a h; exact h.elim
  | succ j ihj =>
    intro p q c v a hN tv hg h37 hr hU h3 hf h15 hK
    obtain ⟨q1, hD, hcase⟩ := hN
    obtain ⟨l, hl, hw⟩ := gD_gW _ _ _ hD
    have hw1 := hw.1
    have hw2 := hw.2.1
    have hq1 : q1 < q ∧ q1 < n := by
      rcases hcase with ⟨-, hc, rfl⟩ | ⟨-, hc, hn⟩
      · exact ⟨by omega, gC_lt (T := T) (by omega)⟩
      · obtain ⟨l2, e2, hv⟩ := gN_gV (gD_gW d) _ _ _ hn
        have := hv.1
        exact ⟨by omega, gC_lt (T := T) (by omega)⟩
    refine ih (k + 1) p q1 c p1 v a K hD hp1 hkd ⟨tv, hg, h37, by omega, fun i h1 h2 => hU i h1 (by omega), fun _ => ⟨f, by rw [h3]; exact hF, hf, by omega⟩⟩ (fun r v1 a1 c1 hb => ?_)
    obtain ⟨b1, b2, b3, b4, b5, b6, b7, b8, b9, b10, b11, b12, b13⟩ := hb
    have ea := b1.at
    have e3 : (a 3 (k + 1)).toInt = (f : Int) := by rw [h3]; exact hF
    have h15' := b11 f (by omega) e3
    rcases hcase with ⟨hj0, hc, rfl⟩ | ⟨hj0, hc, hn⟩
    · refine r_124_73 ⟨fun z => absurd z (by omega), fun _ => ⟨b1.b0, b1.b6, fun z => absurd (ea.trans hc) z, fun _ => ⟨by omega, by omega, ?_⟩⟩⟩
      rw [i32_cl hp1, b9 (k + 1) (by omega), h3]
      refine hK _ a1 c1 (b1.nx (by omega)) b2 b3 b4 (by omega) (fun i h1 h2 => (va_ne h1).trans (b7 i h1 h2)) b8 b9 (fun t ht htf => b10 t ht (fun _ => by omega)) (fun e he => b12 e (by omega) (fun _ => by omega))
    · refine r_124_73 ⟨fun z => absurd z (by omega), fun _ => ⟨b1.b0, b1.b6, fun _ => ⟨fun _ => ?_, fun z => absurd z (by omega)⟩, fun z => absurd z (by omega)⟩⟩
      refine ihj (q1 + 1) q c1 _ a1 hn (b1.nx (by omega)) b2 b3 (by omega) (fun i h1 h2 h4 => ?_) ?_ (by omega) (by omega) (fun v2 a2 c2 d1 d2 d3 d4 d5 d6 d7 d8 d9 d10 => ?_)
      · rw [b8 5 (by decide) (by decide) (by decide) (by decide)]
        exact (hU i (by omega) h2 h4).mono b4 (by omega)
      · rw [b9 (k + 1) (by omega)]
        exact h3
      · exact hK v2 a2 c2 d1 d2 d3 (by omega) (by omega) (fun i h1 h2 => (d6 i h1 h2).trans ((va_ne h1).trans (b7 i h1 h2))) (fun i h1 h2 h4 h5 => (d7 i h1 h2 h4 h5).trans (b8 i h1 h2 h4 h5)) (fun i hi => (d8 i hi).trans (b9 i hi)) (fun t ht htf => (d9 t (by omega) htf).trans (b10 t ht (fun _ => by omega))) (fun e he => (b12 e (by omega) (fun _ => by omega)).trans (d10 e he))
theorem c_bsub : ∀ d, bSub T b n w d := by
  intro d
  induction d with
  | zero => intro k p q c p1 v a K h; exact h.elim
  | succ d ih =>
    intro k p q c p1 v a K hD hp1 hkd hQ hK
    obtain ⟨tv, hg, h37, hr, hU, hop⟩ := hQ
    obtain ⟨l, hl, hw⟩ := gD_gW _ _ _ hD
    have hw1 := hw.1
    have hw2 := hw.2.1
    have hkind : (97 ≤ gC T n p ∧ gC T n p ≤ 122) ∨ isU T n p ∨ (48 ≤ gC T n p ∧ gC T n p ≤ 57) := by
      rcases hD with ⟨h, -⟩ | ⟨h, -⟩ | ⟨h, -⟩ | ⟨h, -⟩ | ⟨h, -⟩
      · exact Or.inl h
      · exact Or.inr (Or.inl h)
      · exact Or.inr (Or.inr h)
      · exact Or.inr (Or.inr h)
      · exact Or.inl h
    refine c_b2 hp1 (by omega) tv hkind hg h37 (by omega) (fun h => hU p (by omega) (by omega) h) hop (fun r lo v1 a1 c1 hlo hb e3 hc1 hnew => ?_)
    obtain ⟨b1, b2, b3, b4, b5, b6, b7, b8, b9, b10, b11, b12, b13⟩ := hb
    have ea := b1.at
    -- a leaf
    have leaf : q = lq T n p → mT 3 sM_124 73 [(0, .ref 33), (1, .int p1), (3, .int r)] [] v1 a1 K := by
      intro e
      subst e
      exact hK r v1 a1 c1 ⟨b1, b2, b3, b4, b5, b6, b7, b8, b9, b10, b11, b12, b13⟩
    rcases hD with ⟨h1, h2, h3⟩ | ⟨h1, h3⟩ | ⟨h1, h2, h3⟩ | ⟨h1, h2, h3⟩ | ⟨h1, h2, j, hj, hN⟩
    · have eq : lq T n p = p + 1 := if_neg (fun z => by have := z.1.2; omega)
      rw [eq] at ea
      refine r_124_33 ⟨fun z => absurd h1 (hlo.mp z), fun _ => ⟨b1.b0, b1.b6, fun _ => leaf (by omega), fun z => absurd (ea.symm.trans z) h2⟩⟩
    · have eq : lq T n p = p + 1 := if_neg (fun z => by have := z.1.2; have := h1.1; omega)
      refine r_124_33 ⟨fun _ => leaf (by omega), fun z => absurd (hlo.mpr (fun y => by have := h1.2; have := y.1; omega)) z⟩
    · have eq : lq T n p = p + 1 := if_neg (fun z => h2 z.2)
      refine r_124_33 ⟨fun _ => leaf (by omega), fun z => absurd (hlo.mpr (fun y => by have := h1.2; have := y.1; omega)) z⟩
    · have eq : lq T n p = p + 2 := if_pos ⟨h1, h2⟩
      refine r_124_33 ⟨fun _ => leaf (by omega), fun z => absurd (hlo.mpr (fun y => by have := h1.2; have := y.1; omega)) z⟩
    · have eq : lq T n p = p + 1 := if_neg (fun z => by have := z.1.2; omega)
      rw [eq] at ea b1 b5
      have nU : ¬ isU T n p := fun z => by have := z.2; omega
      obtain ⟨hn1, hn2⟩ := hnew nU
      subst hn1
      have e1 : (p1 + 1).toInt = ((k + 1 : Nat) : Int) := by
        rw [i32_succ (by omega) (by omega)]
        omega
      obtain ⟨hrc, -⟩ := b13 nU
      refine r_124_33 ⟨fun z => absurd h1 (hlo.mp z), fun _ => ⟨b1.b0, b1.b6, fun z => absurd (ea.trans h2) z, fun _ => ⟨by omega, by omega, ?_⟩⟩⟩
      rw [i32_cl e1]
      obtain ⟨l2, hl2, hv2⟩ := gN_gV (gD_gW d) _ _ _ hN
      have hv21 := hv2.1
      have hv22 := hv2.2.1
      refine c_args ih e1 (by omega) hrc j (p + 2) q (c + 1) _ _ hN ⟨(b1.nx (by omega)).1, b1.2.1, by omega, b1.2.2.2.1, b1.2.2.2.2⟩ (b2.of rfl rfl rfl) b3 (by omega) (fun i i1 i2 i3 => ?_) ud_eq (by omega) ?_ (fun v2 a2 c2 d1 d2 d3 d4 d5 d6 d7 d8 d9 d10 => ?_)
      · show rf (c + 1) w (a1 5 _)
        rw [b8 5 (by decide) (by decide) (by decide) (by decide)]
        exact (hU i (by omega) i2 i3).mono (by omega) (by omega)
      · show (a1 15 c).toInt + (j : Int) ≤ 3
        rw [hn2]
        omega
      · rw [i32_pm (by omega) (by omega)]
        refine hK r v2 a2 c2 ⟨d1, d2, d3, by omega, by omega, ⟨by omega, by omega⟩, fun i i1 i2 => (d6 i i1 i2).trans ((va_ne i1).trans (b7 i i1 i2)), fun i i1 i2 i3 i4 => (d7 i i1 i2 i3 i4).trans ((va_ne i1).trans (b8 i i1 i2 i3 i4)), fun i hi => ?_, fun t ht htk => ?_, fun f hk1 hf => ?_, fun e he hek => ?_, fun _ => ⟨hrc, by omega⟩⟩
        · rw [d8 i (by omega)]
          show upd (a1 3) (k + 1) r i = _
          rw [ud_ne (by omega)]
          exact b9 i hi
        · exact (d9 t (by omega) (by omega)).trans (b10 t ht htk)
        · obtain ⟨f', f1, f2, f3⟩ := hop hk1
          obtain rfl : f = f' := by omega
          rw [d9 f (by omega) (by omega)]
          exact b11 f hk1 hf
        · exact (b12 e he hek).trans (d10 e (by omega))
/-- build: a TERM of the text from p to q -/
theorem c_build {v : Nat → Int32} {a : Nat → Nat → Int32} {p q c : Nat} (hD : gD T n 5 p q) (tv : tV v a T b n p) (hg : gr a c w) (h37 : (v 37).toInt = (c : Int)) (hr : c + q ≤ p + 26000) (hU : ∀ i, p ≤ i → i < q → isU T n i → rf c w (a 5 (gC T n i - 65).toNat))
    (hK : ∀ r v1 a1 c1, tV v1 a1 T b n q → gr a1 c1 w → (v1 37).toInt = (c1 : Int) → c ≤ c1 → c1 + p ≤ c + q → rf c1 w r → (∀ j, j ≠ 12 → j ≠ 37 → v1 j = v j) → (∀ j, j ≠ 3 → j ≠ 14 → j ≠ 15 → j ≠ 16 → a1 j = a j) → cU a a1 c → (¬ isU T n p → 0 ≤ r.toInt) → K r v1 a1) : mT 3 sM_124 0 [(0, .ref 33)] [] v a K := by
  refine r_124_0 (c_bsub 5 0 p q c 0 v a K hD (by decide) (by decide) ⟨tv, hg, h37, hr, hU, fun z => absurd z (by decide)⟩ (fun r v1 a1 c1 hb => ?_))
  obtain ⟨b1, b2, b3, b4, b5, b6, b7, b8, b9, b10, b11, b12, b13⟩ := hb
  refine r_124_73 ⟨fun _ => ⟨fun z => absurd (by decide) z, fun _ => ?_⟩, fun z => absurd z (by decide)⟩
  exact hK r v1 a1 c1 b1 b2 b3 b4 b5 b6 b7 b8 (b12 c (by omega) (fun z => absurd z (by decide))) (fun z => by have := (b13 z).1; omega)
end BS
