/-! THE SPELLING: the JDK's StringBuilder at place 31 -/
def q_B (N : Nat) (G : Nat → sx_C) (n cnt : Nat) : Prop := ∃ (b : Nat) (ml ct : Int32) (f : Nat → Int32), G 31 = oC 14 [.ref b, .int 0, .int ml, .int ct] ∧ ct.toInt = (cnt : Int) ∧ 31 < b ∧ b < N ∧ G b = .inl (1, (n, .inl f)) ∧ (∀ i, sx_fit .byte (.int (f i)) = true) ∧ 16 ≤ n ∧ n ≤ 600 ∧ cnt ≤ n
def q_X (G : Nat → sx_C) (p : Nat) : Prop := p = 31 ∨ ∃ (b : Nat) (x y z : Value), G 31 = oC 14 [.ref b, x, y, z] ∧ p = b
def q_LR (N : Nat) (G : Nat → sx_C) (N1 : Nat) (G1 : Nat → sx_C) : Prop := q_sl N G N1 G1 ∧ (∀ p, p < N → ¬ q_X G p → G1 p = G p) ∧ (∀ p, p < N → q_X G1 p → q_X G p)
def q_lI (N : Nat) (G : Nat → sx_C) (u c mk n cnt : Nat) : Prop := q_rI N G u c mk ∧ q_B N G n cnt
section QB
variable {N N1 N2 u c mk n cnt b b1 n1 cnt1 : Nat} {G G1 G2 : Nat → sx_C} {K : Option Value ⊕ Nat → Nat → (Nat → sx_C) → Nat → Nat → Prop}
theorem q_LR.rfl' : q_LR N G N G := ⟨q_sl.rfl', fun _ _ _ => rfl, fun _ _ h => h⟩
theorem q_LR.trans (h : q_LR N G N1 G1) (g : q_LR N1 G1 N2 G2) : q_LR N G N2 G2 := by
  refine ⟨h.1.trans g.1, fun p hp hU => ?_, fun p hp hU => h.2.2 p hp (g.2.2 p (Nat.lt_of_lt_of_le hp h.1.1) hU)⟩
  rw [g.2.1 p (Nat.lt_of_lt_of_le hp h.1.1) (fun q => hU (h.2.2 p hp q))]
  exact h.2.1 p hp hU
theorem q_fitb (x : Int32) : sx_fit .byte (.int (vp_nar .byte x)) = true := by
  rw [vp_nar_byte]
  show (x.toInt8.toInt32.toInt8.toInt32 == x.toInt8.toInt32) = true
  rw [← vp_nar_byte (x.toInt8.toInt32), pk_vb]
  exact beq_self_eq_true _
theorem q_fitu {f : Nat → Int32} {k : Nat} {x : Int32} (h : ∀ i, sx_fit .byte (.int (f i)) = true) : ∀ i, sx_fit .byte (.int (upd f k (vp_nar .byte x) i)) = true := by
  intro i
  unfold upd
  split
  · exact q_fitb x
  · exact h i
/-- the builder, its bytes, and nothing else -/
theorem q_rI.byt {fb : Nat → Int32} (h : q_rI N G u c mk) (hb : G b = .inl (1, (n, .inl fb))) (hN : N ≤ N1) (e : ∀ p, p < N → p ≠ 31 → p ≠ b → G1 p = G p) (e31 : ∃ fs, G1 31 = oC 14 fs) (eb : ∃ f1 : Nat → Int32, G1 b = .inl (1, (n, .inl f1))) (hc : ∀ p, N ≤ p → p < N1 → q_ok N1 G1 p (G1 p)) : q_rI N1 G1 u c mk ∧ q_sl N G N1 G1 := by
  obtain ⟨sp, hn, hr⟩ := h
  have h64 := hn.1.2.1.1
  obtain ⟨fs1, e31⟩ := e31
  obtain ⟨f1, eb⟩ := eb
  obtain ⟨gs, g31⟩ := hn.1.2.1.oj 31 14 rfl
  have s : q_sl N G N1 G1 := by
    refine ⟨hN, fun p hp => ?_⟩
    by_cases p31 : p = 31
    · rw [p31, e31]
      exact q_le.ob g31 (by decide)
    · by_cases pb : p = b
      · rw [pb, eb]
        exact q_le.b hb
      · rw [e p hp p31 pb]
        exact q_le.rfl'
  have nb : ∀ p ci, q_tg p = some ci → p ≠ b := fun p ci t q => by
    obtain ⟨fs, g⟩ := hn.1.2.1.oj p ci t
    rw [q, hb] at g
    cases g
  have nb17 : 17 ≠ b := fun q => by
    obtain ⟨f, g⟩ := hn.1.2.1.a 17 5 4 rfl
    rw [q, hb] at g
    cases g
  refine ⟨⟨sp, ⟨⟨hn.1.1.gen s (fun p h5 hp => ?_), hn.1.2.1.sl s, hn.1.2.2.1.fr s (e 13 (by omega) (by decide) (nb 13 5 rfl)), hn.1.2.2.2.1.fr s (e 10 (by omega) (by decide) (nb 10 3 rfl)), hn.1.2.2.2.2.fr s (e 11 (by omega) (by decide) (nb 11 4 rfl)) (e 12 (by omega) (by decide) (nb 12 13 rfl)) (fun a z m ea => ?_)⟩, hn.2.fr (e 9 (by omega) (by decide) (nb 9 2 rfl)) (e 17 (by omega) (by decide) nb17) (fun p hp => e p (by have := hp.le; omega) (by have := hp.le; omega) (nb p 6 hp.tg))⟩, hr⟩, s⟩
  · by_cases q : p < N
    · by_cases p31 : p = 31
      · rw [p31, e31]
        exact Or.inr (q_ok.ot (by decide) (by decide) (by decide))
      · by_cases pb : p = b
        · rw [pb, eb]
          exact Or.inr q_ok.b
        · exact Or.inl ⟨q, e p q p31 pb⟩
    · exact Or.inr (hc p (by omega) hp)
  · obtain ⟨n', f', g1, g2⟩ := hn.1.2.2.2.2.a4 ea
    refine e a g2 (fun q => ?_) (fun q => ?_)
    · rw [q, g31] at g1
      exact oa_ne g1
    · rw [q, hb] at g1
      cases g1
/-- the same bytes -/
theorem q_lI.same {ml ct ml1 ct1 : Int32} {f f1 : Nat → Int32} (h : q_lI N G u c mk n cnt) (e31 : G 31 = oC 14 [.ref b, .int 0, .int ml, .int ct]) (eb : G b = .inl (1, (n, .inl f))) (e : ∀ p, p < N → p ≠ 31 → p ≠ b → G1 p = G p) (g31 : G1 31 = oC 14 [.ref b, .int 0, .int ml1, .int ct1]) (gb : G1 b = .inl (1, (n, .inl f1))) (hf : ∀ i, sx_fit .byte (.int (f1 i)) = true) (hc : ct1.toInt = (cnt1 : Int)) (hn : cnt1 ≤ n) : q_lI N G1 u c mk n cnt1 ∧ q_LR N G N G1 := by
  obtain ⟨b', ml', ct', f', p1, p2, p3, p4, p5, p6, p7, p8, p9⟩ := h.2
  have := (oC_inj (p1.symm.trans e31)).2
  cases this
  obtain ⟨i1, s⟩ := h.1.byt (N1 := N) eb (Nat.le_refl N) e ⟨_, g31⟩ ⟨f1, gb⟩ (fun p h1 h2 => by omega)
  refine ⟨⟨i1, b, ml1, ct1, f1, g31, hc, p3, p4, gb, hf, p7, p8, hn⟩, s, fun p hp hX => e p hp (fun q => hX (Or.inl q)) (fun q => hX (Or.inr ⟨b, _, _, _, e31, q⟩)), fun p hp hX => ?_⟩
  rcases hX with q | ⟨b2, x, y, z, q1, q2⟩
  · exact Or.inl q
  · have := (oC_inj (g31.symm.trans q1)).2
    cases this
    exact Or.inr ⟨_, _, _, _, e31, q2⟩
/-- new bytes, at the place N -/
theorem q_lI.grow {ml ct : Int32} {f f1 : Nat → Int32} (h : q_lI N G u c mk n cnt) (e31 : G 31 = oC 14 [.ref b, .int 0, .int ml, .int ct]) (eb : G b = .inl (1, (n, .inl f))) (e : ∀ p, p < N → p ≠ 31 → G1 p = G p) (g31 : G1 31 = oC 14 [.ref N, .int 0, .int ml, .int ct]) (gN : G1 N = .inl (1, (n1, .inl f1))) (hf : ∀ i, sx_fit .byte (.int (f1 i)) = true) (hn : n ≤ n1) (hn6 : n1 ≤ 600) : q_lI (N + 1) G1 u c mk n1 cnt ∧ q_LR N G (N + 1) G1 := by
  obtain ⟨b', ml', ct', f', p1, p2, p3, p4, p5, p6, p7, p8, p9⟩ := h.2
  have := (oC_inj (p1.symm.trans e31)).2
  cases this
  obtain ⟨i1, s⟩ := h.1.byt (N1 := N + 1) eb (Nat.le_succ N) (fun p hp h1 _ => e p hp h1) ⟨_, g31⟩ ⟨f, (e b p4 (by omega)).trans eb⟩ (fun p h1 h2 => by
    rw [show p = N by omega, gN]
    exact q_ok.b)
  refine ⟨⟨i1, N, ml, ct, f1, g31, p2, by omega, by omega, gN, hf, by omega, hn6, by omega⟩, s, fun p hp hX => e p hp (fun q => hX (Or.inl q)), fun p hp hX => ?_⟩
  rcases hX with q | ⟨b2, x, y, z, q1, q2⟩
  · exact Or.inl q
  · have := (oC_inj (g31.symm.trans q1)).2
    cases this
    omega
theorem i32_shr0 (x : Int32) : c_shr x 0 = x := sb_shr0 x
theorem i32_shl0 (x : Int32) : c_shl x 0 = x := by
  refine b_ext (fun i hi => ?_)
  show bt (x <<< (nI 0 &&& 31)) i = bt x i
  rw [b_shl 0 (by decide) x hi, Nat.sub_zero, decide_eq_true (Nat.zero_le i), Bool.true_and]
theorem i32_shl2 : c_shl 2 0 = 2 := i32_shl0 2
set_option maxHeartbeats 2000000 in
theorem j_ensure {p1 : Int32} {need : Nat} (h : q_lI N G u c mk n cnt) (hp : p1.toInt = (need : Int)) (h3 : need ≤ 290) (hK : ∀ N1 G1 kc ks n1, q_lI N1 G1 u c mk n1 cnt → q_LR N G N1 G1 → n ≤ n1 → need ≤ n1 → kc + n ≤ n1 → ks + 8 * n ≤ 8 * n1 → K (.inl none) N1 G1 kc ks) : cT 4 sM_183 0 [(0, .ref 31), (1, .int p1)] [] N G K := by
  obtain ⟨b, ml, ct, f, p1', p2, p3, p4, p5, p6, p7, p8, p9⟩ := id h.2
  have h64 : 64 < N := by
    obtain ⟨sp, hn, -⟩ := h.1
    exact hn.1.2.1.1
  have en := i32_on (n := n) (by omega)
  have e1 : (p1 - Int32.ofNat n).toInt = (need : Int) - (n : Int) := i32_sub (by rw [hp, en]) (by omega) (by omega)
  have e2 : (Int32.ofNat n + 2).toInt = (n : Int) + 2 := i32_add (by rw [en]; rfl) (by omega) (by omega)
  have e3 : (Int32.ofNat n + (Int32.ofNat n + 2)).toInt = ((2 * n + 2 : Nat) : Int) := i32_add (by rw [en, e2]; omega) (by omega) (by omega)
  have e4 : (Int32.ofNat n + (p1 - Int32.ofNat n)).toInt = ((need : Nat) : Int) := i32_add (by rw [en, e1]; omega) (by omega) (by omega)
  have enl : (Int32.ofNat n).toNatClampNeg = n := i32_cl en
  refine k_183_0 ⟨by omega, by omega, b, 0, ml, ct, p1', by omega, p4, n, f, p5, ?_⟩
  simp only [i32_shr0, i32_shl0]
  have fin : ∀ n1 : Nat, n ≤ n1 → n1 ≤ 600 → need ≤ n1 → 1 + n ≤ n1 → n1 + 8 * n ≤ 8 * n1 → K (.inl none) (N + 1) (va_up (va_up (va_up G N (.inl (1, (n1, .inl (fun _ => 0))))) N (.inl (1, (n1, .inl (va_cpy f (fun _ => 0) (0 : Int32).toNatClampNeg (0 : Int32).toNatClampNeg (Int32.ofNat n).toNatClampNeg))))) 31 (oC 14 [.ref N, .int 0, .int ml, .int ct])) 1 n1 := by
    intro n1 q1 q2 q3 q4 q5
    obtain ⟨i1, r1⟩ := h.grow (n1 := n1) (f1 := va_cpy f (fun _ => 0) (0 : Int32).toNatClampNeg (0 : Int32).toNatClampNeg (Int32.ofNat n).toNatClampNeg) (G1 := va_up (va_up (va_up G N (.inl (1, (n1, .inl (fun _ => 0))))) N (.inl (1, (n1, .inl (va_cpy f (fun _ => 0) (0 : Int32).toNatClampNeg (0 : Int32).toNatClampNeg (Int32.ofNat n).toNatClampNeg))))) 31 (oC 14 [.ref N, .int 0, .int ml, .int ct])) p1' p5 (fun p hp h1 => by rw [va_ne h1, va_ne (by omega), va_ne (by omega)]) up_eq ((va_ne (by omega)).trans up_eq) (fun i => by
      unfold va_cpy
      split
      · exact p6 _
      · rfl) q1 q2
    exact hK _ _ 1 n1 n1 i1 r1 q1 q3 q4 q5
  have cpy : ∀ n1 : Nat, n ≤ n1 → (0 ≤ (0 : Int32).toInt ∧ 0 ≤ (0 : Int32).toInt ∧ 0 ≤ (Int32.ofNat n).toInt ∧ (0 : Int32).toInt + (Int32.ofNat n).toInt ≤ ((n : Nat) : Int) ∧ (0 : Int32).toInt + (Int32.ofNat n).toInt ≤ ((n1 : Nat) : Int) ∧ ∀ i, i < (Int32.ofNat n).toNatClampNeg → sx_fit .byte (.int (f ((0 : Int32).toNatClampNeg + i))) = true) := fun n1 q => ⟨Int.le_refl 0, Int.le_refl 0, by omega, by show 0 + _ ≤ _; omega, by show 0 + _ ≤ _; omega, fun i _ => p6 _⟩
  refine ⟨fun hle => hK N G 0 0 n h q_LR.rfl' (by omega) (by omega) (by omega) (by omega), fun hgt => ⟨fun hmin => ⟨fun q => by omega, fun _ => ⟨fun q => by omega, fun _ => ⟨fun _ => ⟨fun _ => ⟨by omega, 2 * n + 2, by omega, i32_cl e3, by omega, fun q => by omega, fun _ => ⟨cpy _ (by omega), fin _ (by omega) (by omega) (by omega) (by omega) (by omega)⟩⟩, fun q => by omega⟩, fun q => by omega⟩⟩⟩, fun hmin => ⟨fun q => by omega, fun _ => ⟨fun q => by omega, fun _ => ⟨fun _ => ⟨fun _ => ⟨by omega, need, by omega, i32_cl e4, by omega, fun q => by omega, fun _ => ⟨cpy _ (by omega), fin _ (by omega) (by omega) (by omega) (by omega) (by omega)⟩⟩, fun q => by omega⟩, fun q => by omega⟩⟩⟩⟩⟩
theorem j_appc {p1 : Int32} (h : q_lI N G u c mk n cnt) (hp : p1.toInt ≤ 255) (h3 : cnt + 1 ≤ 290) (hK : ∀ N1 G1 kc ks n1, q_lI N1 G1 u c mk n1 (cnt + 1) → q_LR N G N1 G1 → n ≤ n1 → kc + n ≤ n1 → ks + 8 * n ≤ 8 * n1 → K (.inl (some (.ref 31))) N1 G1 kc ks) : cT 6 sM_195 0 [(0, .ref 31), (1, .int p1)] [] N G K := by
  obtain ⟨b, ml, ct, f, p1', p2, p3, p4, p5, p6, p7, p8, p9⟩ := id h.2
  have e1 : (ct + 1).toInt = ((cnt + 1 : Nat) : Int) := by
    rw [i32_succ (by omega) (by omega), p2]
    omega
  refine k_195_0 ⟨by omega, by omega, b, 0, ml, ct, p1', j_ensure h e1 h3 (fun N1 G1 kc ks n1 t1 t2 t3 t4 t5 t6 => ⟨rfl, ?_⟩)⟩
  obtain ⟨b1, ml1, ct1, f1, q1, q2, q3, q4, q5, q6, q7, q8, q9⟩ := id t1.2
  have nb : b1 ≠ 31 := by omega
  refine ⟨by omega, by omega, b1, 0, ml1, ct1, q1, fun z => absurd rfl z, fun _ => ⟨fun z => by omega, fun _ => ⟨by omega, q4, n1, f1, (va_ne nb).trans q5, by omega, by omega, ?_⟩⟩⟩
  have e2 : (ct1 + 1).toInt = ((cnt + 1 : Nat) : Int) := by
    rw [i32_succ (by omega) (by omega), q2]
    omega
  obtain ⟨i1, r1⟩ := t1.same (G1 := va_up (va_up G1 31 (oC 14 [.ref b1, .int 0, .int ml1, .int (ct1 + 1)])) b1 (.inl (1, (n1, .inl (upd f1 ct1.toNatClampNeg (vp_nar .byte (Int8.toInt32 (Int32.toInt8 p1)))))))) q1 q5 (fun p hp h1 h2 => (va_ne h2).trans (va_ne h1)) ((va_ne (Ne.symm nb)).trans up_eq) up_eq (q_fitu q6) e2 t4
  exact hK N1 _ kc ks n1 i1 (t2.trans r1) t3 t5 t6
theorem j_setl (h : q_lI N G u c mk n cnt) (hK : ∀ G1, q_lI N G1 u c mk n 0 → q_LR N G N G1 → K (.inl none) N G1 0 0) : cT 11 sM_181 0 [(0, .ref 31), (1, .int 0)] [] N G K := by
  obtain ⟨b, ml, ct, f, p1', p2, p3, p4, p5, p6, p7, p8, p9⟩ := id h.2
  refine k_181_0 ⟨by omega, by omega, b, 0, ml, ct, p1', fun _ => ?_, fun q => absurd q (by decide)⟩
  have set : ∀ (N1 : Nat) (G1 : Nat → sx_C) (n1 : Nat) (b1 : Nat) (ml1 ct1 ml2 : Int32) (f1 : Nat → Int32), q_lI N1 G1 u c mk n1 cnt → G1 31 = oC 14 [.ref b1, .int 0, .int ml1, .int ct1] → G1 b1 = .inl (1, (n1, .inl f1)) → (∀ i, sx_fit .byte (.int (f1 i)) = true) → b1 ≠ 31 → q_lI N1 (va_up G1 31 (oC 14 [.ref b1, .int 0, .int ml2, .int 0])) u c mk n1 0 ∧ q_LR N1 G1 N1 (va_up G1 31 (oC 14 [.ref b1, .int 0, .int ml2, .int 0])) := fun N1 G1 n1 b1 ml1 ct1 ml2 f1 t1 q1 q5 q6 nb => t1.same q1 q5 (fun p hp h1 h2 => va_ne h1) up_eq ((va_ne nb).trans q5) q6 rfl (Nat.zero_le _)
  refine k_183_0 ⟨by omega, by omega, b, 0, ml, ct, p1', by omega, p4, n, f, p5, ?_⟩
  have en := i32_on (n := n) (by omega)
  rw [i32_shr0]
  have e1 : (0 - Int32.ofNat n).toInt = 0 - (n : Int) := i32_sub (by rw [en]; rfl) (by omega) (by omega)
  refine ⟨fun _ => ⟨rfl, by omega, by omega, b, 0, ml, ct, p1', fun _ => ⟨fun _ => ?_, fun _ => ?_⟩, fun q => ?_⟩, fun q => ?_⟩
  · obtain ⟨i1, r1⟩ := set N G n b ml ct ml f h p1' p5 p6 (by omega)
    exact hK _ i1 r1
  · obtain ⟨i1, r1⟩ := set N G n b ml ct 1 f h p1' p5 p6 (by omega)
    exact hK _ i1 r1
  · exfalso
    have q' : ct.toInt < 0 := q
    omega
  · exfalso
    omega
theorem j_charAt {p1 : Int32} (h : q_lI N G u c mk n cnt) (h0 : 0 ≤ p1.toInt) (h1 : p1.toInt < (cnt : Int)) (hK : ∀ v : Int32, K (.inl (some (.int v))) N G 0 0) : cT 4 sM_198 0 [(0, .ref 31), (1, .int p1)] [] N G K := by
  obtain ⟨b, ml, ct, f, p1', p2, p3, p4, p5, p6, p7, p8, p9⟩ := id h.2
  have en := i32_on (n := n) (by omega)
  refine k_198_0 ⟨by omega, by omega, b, 0, ml, ct, p1', by omega, p4, n, f, p5, ?_⟩
  rw [i32_shr0]
  exact ⟨fun _ => ⟨h0, by omega, fun z => absurd rfl z, fun _ => ⟨h0, by omega, hK _⟩⟩, fun _ => ⟨h0, by omega, fun z => absurd rfl z, fun _ => ⟨h0, by omega, hK _⟩⟩⟩
end QB
