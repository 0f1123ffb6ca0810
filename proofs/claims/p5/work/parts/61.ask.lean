/-! drop, ask of the reference -/
section DR
variable {K : Int32 → (Nat → Int32) → (Nat → Nat → Int32) → Prop}
/-- CLAUSES moved down: those from i on, below k, are what stood one further -/
def dS (a0 : Nat → Nat → Int32) (i k : Nat) (a : Nat → Nat → Int32) : Prop := fr [1, 2] a0 a ∧ ∀ ci, ci < 12 → (a 2 ci = a0 2 (if i ≤ ci ∧ ci < k then ci + 1 else ci)) ∧ ∀ j, j < 48 → a 1 (ci * 48 + j) = a0 1 ((if i ≤ ci ∧ ci < k then ci + 1 else ci) * 48 + j)
theorem c_drop55 {v : Nat → Int32} {a0 : Nat → Nat → Int32} {p1 p2 : Int32} {i k : Nat} (hp2 : p2.toInt = (k : Int)) (hk : k < 11) (hik : i ≤ k) (hC : ∀ a, dS a0 i (k + 1) a → mT 1 sM_120 31 [(0, .ref 33), (1, .int p1), (2, .int (p2 + 1))] [] v a K) : ∀ (m j : Nat) (p3 : Int32) (a : Nat → Nat → Int32), p3.toInt = (j : Int) → j + m = 48 → fr [1, 2] a0 a → (∀ ci, ci < 12 → a 2 ci = a0 2 (if i ≤ ci ∧ ci < k + 1 then ci + 1 else ci)) → (∀ ci, ci < 12 → ci ≠ k → ∀ x, x < 48 → a 1 (ci * 48 + x) = a0 1 ((if i ≤ ci ∧ ci < k then ci + 1 else ci) * 48 + x)) → (∀ x, x < j → a 1 (k * 48 + x) = a0 1 ((k + 1) * 48 + x)) → mT 1 sM_120 55 [(0, .ref 33), (1, .int p1), (2, .int p2), (3, .int p3)] [] v a K := by
  intro m
  induction m with
  | zero =>
    intro j p3 a h3 hj f1 f2 f3 f4
    refine r_120_55 ⟨fun _ => hC a ⟨f1, fun ci hci => ⟨f2 ci hci, fun x hx => ?_⟩⟩, fun z => absurd z (by omega)⟩
    by_cases e : ci = k
    · subst e
      rw [if_pos ⟨hik, by omega⟩]
      exact f4 x (by omega)
    · rw [f3 ci hci e x hx]
      by_cases q : i ≤ ci ∧ ci < k
      · rw [if_pos q, if_pos ⟨q.1, by omega⟩]
      · rw [if_neg q, if_neg (by omega)]
  | succ m ih =>
    intro j p3 a h3 hj f1 f2 f3 f4
    have t48 : ((48 : Int32)).toInt = 48 := by decide
    have em : (p2 * 48).toInt = (k : Int) * 48 := i32_mul (by rw [hp2, t48]) (by omega) (by omega)
    have e1 : (p2 * 48 + 48).toInt = (k : Int) * 48 + 48 := i32_add (by rw [em, t48]) (by omega) (by omega)
    have e2 : (p2 * 48 + 48 + p3).toInt = (((k + 1) * 48 + j : Nat) : Int) := i32_add (by rw [e1]; omega) (by omega) (by omega)
    have e3 : (p2 * 48 + p3).toInt = ((k * 48 + j : Nat) : Int) := i32_add (by rw [em]; omega) (by omega) (by omega)
    refine r_120_55 ⟨fun z => absurd z (by omega), fun _ => ⟨by omega, by omega, by omega, by omega, ?_⟩⟩
    rw [i32_cl e2, i32_cl e3]
    refine ih (j + 1) (p3 + 1) _ (by rw [i32_succ (by omega) (by omega)]; omega) (by omega) (f1.up (by decide)) f2 (fun ci hci hne x hx => ?_) (fun x hx => ?_)
    · show upd (a 1) (k * 48 + j) _ (ci * 48 + x) = _
      rw [ud_ne (by rcases Nat.lt_or_gt_of_ne hne with q | q <;> omega)]
      exact f3 ci hci hne x hx
    · show upd (a 1) (k * 48 + j) (a 1 ((k + 1) * 48 + j)) (k * 48 + x) = _
      by_cases e : x = j
      · subst e
        rw [ud_eq, f3 (k + 1) (by omega) (by omega) x (by omega), if_neg (by omega)]
      · rw [ud_ne (by omega)]
        exact f4 x (by omega)
theorem c_drop31 {v : Nat → Int32} {a0 : Nat → Nat → Int32} {p1 : Int32} {i C : Nat} (h8 : (v 8).toInt = (C : Int)) (hC : C ≤ 11) (hK : ∀ a, dS a0 i C a → K 0 v a) : ∀ (m k : Nat) (p2 : Int32) (a : Nat → Nat → Int32), p2.toInt = (k : Int) → k + m = C → i ≤ k → dS a0 i k a → mT 1 sM_120 31 [(0, .ref 33), (1, .int p1), (2, .int p2)] [] v a K := by
  intro m
  induction m with
  | zero =>
    intro k p2 a h2 hk hik hd
    obtain rfl : k = C := by omega
    exact r_120_31 ⟨fun _ => hK a hd, fun z => absurd z (by omega)⟩
  | succ m ih =>
    intro k p2 a h2 hk hik hd
    have e1 : (p2 + 1).toInt = ((k + 1 : Nat) : Int) := by
      rw [i32_succ (by omega) (by omega)]
      omega
    obtain ⟨f1, f2⟩ := hd
    refine r_120_31 ⟨fun z => absurd z (by omega), fun _ => ⟨by omega, by omega, by omega, by omega, ?_⟩⟩
    rw [i32_cl e1, i32_cl h2]
    refine c_drop55 (a0 := a0) (i := i) h2 (by omega) hik (fun a1 hd1 => ih (k + 1) (p2 + 1) a1 e1 (by omega) (by omega) hd1) 48 0 0 _ (by decide) (by omega) (f1.up (by decide)) (fun ci hci => ?_) (fun ci hci hne x hx => (f2 ci hci).2 x hx) (fun x hx => absurd hx (by omega))
    show upd (a 2) k (a 2 (k + 1)) ci = _
    by_cases e : ci = k
    · subst e
      rw [ud_eq, (f2 (ci + 1) (by omega)).1, if_neg (by omega), if_pos ⟨hik, by omega⟩]
    · rw [ud_ne e, (f2 ci hci).1]
      by_cases q : i ≤ ci ∧ ci < k
      · rw [if_pos q, if_pos ⟨q.1, by omega⟩]
      · rw [if_neg q, if_neg (by omega)]
/-- drop(i) -/
theorem c_drop {v : Nat → Int32} {a : Nat → Nat → Int32} {p1 : Int32} {C : Nat} (hM : mI v a) (h8 : (v 8).toInt = (C : Int)) (hKF : (p1.toInt < 0 ∨ (C : Int) ≤ p1.toInt) → ∀ v1 a1, mI v1 a1 → v1 7 = v 7 → v1 8 = v 8 → a1 0 = a 0 → (v1 11).toInt = 1 → K 0 v1 a1) (hKT : 0 ≤ p1.toInt → p1.toInt < (C : Int) → ∀ v1 a1, mI v1 a1 → v1 7 = v 7 → (v1 8).toInt + 1 = (C : Int) → a1 0 = a 0 → (v1 11).toInt = 0 → K 0 v1 a1) : mT 1 sM_120 0 [(0, .ref 33), (1, .int p1)] [] v a K := by
  obtain ⟨m1, ⟨C', hC, h8', hct⟩, m3⟩ := id hM
  have eC : C = C' := by omega
  subst eC
  have e8 : (v 8 - 1).toInt = (C : Int) - 1 := i32_sub (by rw [h8, show ((1 : Int32)).toInt = 1 from by decide]) (by omega) (by omega)
  refine r_120_0 ⟨fun g1 g2 => ?_, fun g => ?_⟩
  · obtain ⟨i, ei⟩ : ∃ i : Nat, p1.toInt = (i : Int) := ⟨p1.toInt.toNat, by omega⟩
    have e8' : (v 8 - 1).toInt = ((C - 1 : Nat) : Int) := by omega
    refine c_drop31 (v := va_up (va_up v 11 0) 8 (v 8 - 1)) (a0 := a) (i := i) (C := C - 1) e8' (by omega) (fun a1 hd => ?_) (C - 1 - i) i p1 a ei (by omega) (Nat.le_refl _) ⟨fr.rfl', fun ci hci => by rw [if_neg (by omega)]; exact ⟨rfl, fun _ _ => rfl⟩⟩
    obtain ⟨f1, f2⟩ := hd
    refine hKT (by omega) (by omega) _ a1 ⟨m1, ⟨C - 1, by omega, e8', fun ci hci => ?_⟩, ?_⟩ rfl (by show (v 8 - 1).toInt + 1 = _; omega) (f1 0 (by decide)) (by show (0 : Int32).toInt = 0; decide)
    · obtain ⟨q1, q2⟩ := f2 ci (by omega)
      have hlt : (if i ≤ ci ∧ ci < C - 1 then ci + 1 else ci) < C := by
        split <;> omega
      obtain ⟨T, n, k1, k2, k3, k4⟩ := hct _ hlt
      refine ⟨T, n, k1, by rw [q1]; exact k2, fun x hx => ?_, k4⟩
      rw [q2 x (by omega)]
      exact k3 x hx
    · exact m3.imp id (fun q => q.keep ((fr.rfl'.up (by decide)).up (by decide)) (f1.sub (by decide)))
  · refine hKF (by omega) _ a ⟨m1, ⟨C, hC, h8, hct⟩, m3.imp id (fun q => q.keep (fr.rfl'.up (by decide)) fr.rfl')⟩ rfl rfl rfl (by show (1 : Int32).toInt = 1; decide)
end DR
section AK
variable {K : Int32 → (Nat → Int32) → (Nat → Nat → Int32) → Prop}
theorem m_rem4 {x : Int32} {u : Nat} (h : x.toInt = (u : Int)) (hu : u < 1000) : (m_rem x 4).toInt = ((u % 4 : Nat) : Int) := by
  have t4 : ((4 : Int32)).toInt = 4 := by decide
  have ed : (x / 4).toInt = (u : Int) / 4 := (lg_idiv_nonneg (by omega) (by decide)).trans (by rw [h, t4])
  have em : (x / 4 * 4).toInt = (u : Int) / 4 * 4 := i32_mul (by rw [ed, t4]) (by omega) (by omega)
  exact i32_sub (by rw [h, em]; omega) (by omega) (by omega)
/-- question := map -/
theorem c_ask185 {p1 p2 : Int32} {T : Nat → Int32} {n N c w : Nat} (hn : n ≤ 48) (hw : w ≤ 26) (hQ : gQ T n 0 = some N) {v : Nat → Int32} {a0 : Nat → Nat → Int32} (tv : tV v a0 T 576 n 0) (hb : bS v a0 T n c w) (hc0 : c = 0) (h38 : (v 38).toInt = (w : Int)) (hmp : mp a0 c w)
    (hK : ∀ r v1 a1 c1, gr a1 c1 w → (v1 37).toInt = (c1 : Int) → c1 ≤ 49 → gi v1 a1 c1 w (fun _ => False) 0 → (∀ u, u < 26 → (a1 6 u).toInt = 2147483647 ∨ rf c1 w (a1 6 u)) → fr [11, 12, 37] v v1 → fr (6 :: nA) a0 a1 → ((v1 11).toInt = 0 → r.toInt = (N : Int)) → K r v1 a1) : ∀ (k u : Nat) (p3 : Int32) (a : Nat → Nat → Int32), p3.toInt = (u : Int) → u + k = 26 → fr [6] a0 a → (∀ i, i < u → a 6 i = a0 5 i) → mT 5 sM_121 185 [(0, .ref 33), (1, .int p1), (2, .int p2), (3, .int p3)] [] v a K := by
  intro k
  induction k with
  | zero =>
    intro u p3 a h3 hu f1 f2
    refine r_121_185 ⟨fun _ => r_123_0 ?_, fun z => absurd z (by omega)⟩
    have hNb : N ≤ 900 := by
      have hNk : ∀ k p N, gGs T n k p = some N → N ≤ k := by
        intro k
        induction k with
        | zero => intro p N hx; cases hx
        | succ k ihk =>
          intro p N hx
          obtain ⟨q', -, hy⟩ := gGs_parts hx
          rcases hy with ⟨-, N1, hN1, e⟩ | ⟨-, -, e⟩
          · have := ihk _ _ hN1
            omega
          · omega
      have := hNk _ _ _ hQ
      omega
    refine c_bg2 (p1 := 1) (by decide) hn (by omega) (n - 0 + 1) 0 N c 0 v a (Or.inl hQ) (tv.of rfl rfl (f1 1 (by decide))) ⟨hb.1.of (f1 15 (by decide)) (f1 16 (by decide)) (f1 17 (by decide)), hb.2.1, fun i hi hu => by rw [f1 5 (by decide)]; exact hb.2.2.1 i hi hu, hb.2.2.2.of (Nat.le_refl _) (Nat.le_refl _) rfl (fun j hj => f1 j (fun y => by rw [List.mem_singleton] at y; omega))⟩ (by omega) (by decide) (by rw [show ((0 : Int32)).toInt = 0 from by decide]; omega) (fun r v1 a1 c1 q1 q2 q3 q4 q5 q6 q7 q8 => ?_)
    refine hK r v1 a1 c1 q1 q2 (by omega) q5 (fun u hu => ?_) q6 ((f1.sub (by decide)).trans (q7.sub (by decide))) (fun z => by rw [q8 z, show ((0 : Int32)).toInt = 0 from by decide]; omega)
    rw [q7 6 (by decide), f2 u (by omega)]
    exact (hmp u hu).imp id (fun y => y.mono q3 (Nat.le_refl _))
  | succ k ih =>
    intro u p3 a h3 hu f1 f2
    refine r_121_185 ⟨fun z => absurd z (by omega), fun _ => ⟨by omega, by omega, by omega, by omega, ?_⟩⟩
    rw [i32_cl h3]
    refine ih (u + 1) (p3 + 1) _ (by rw [i32_succ (by omega) (by omega)]; omega) (by omega) (f1.up (by decide)) (fun i hi => ?_)
    show upd (a 6) u (a 5 u) i = _
    by_cases e : i = u
    · subst e
      rw [ud_eq, f1 5 (by decide)]
    · rw [ud_ne e]
      exact f2 i (by omega)
/-- what ask may change -/
def aB : List Nat := [3, 5, 6, 14, 15, 16, 17, 18, 19, 20, 21, 22, 23, 25, 27, 28, 30]
/-- the map is made empty, VARIABLES come to be -/
theorem c_ask140 {p1 p2 : Int32} {T : Nat → Int32} {n N : Nat} (hn : n ≤ 48) (hp2 : p2.toInt = (n : Int)) (hQ : gQ T n 0 = some N) {v : Nat → Int32} {a0 : Nat → Nat → Int32} (h37 : (v 37).toInt = 0) (h38 : (v 38).toInt = 0) (h40 : (v 40).toInt = 0)
    (hK : ∀ r v1 a1 c1 w1, w1 ≤ 26 → gr a1 c1 w1 → (v1 37).toInt = (c1 : Int) → (v1 38).toInt = (w1 : Int) → c1 ≤ 49 → gi v1 a1 c1 w1 (fun _ => False) 0 → (∀ u, u < 26 → (a1 6 u).toInt = 2147483647 ∨ rf c1 w1 (a1 6 u)) → fr [11, 12, 13, 37, 38] v v1 → fr aB a0 a1 → ((v1 11).toInt = 0 → r.toInt = (N : Int)) → K r v1 a1) : ∀ (k u : Nat) (p3 : Int32) (a : Nat → Nat → Int32), p3.toInt = (u : Int) → u + k = 26 → (∀ i, i < n → a 1 (576 + i) = T i) → (∀ g, g < 61 → (a 30 g).toInt = 0 ∧ (a 25 g).toInt = 0) → (∀ l, l < 4 → (a 28 l).toInt = 0) → (∀ i, i < u → (a 5 i).toInt = 2147483647) → fr [5] a0 a → mT 5 sM_121 140 [(0, .ref 33), (1, .int p1), (2, .int p2), (3, .int p3)] [] v a K := by
  intro k
  induction k with
  | zero =>
    intro u p3 a h3 hu fT fg fl f5 oA
    refine r_121_140 ⟨fun _ => ?_, fun z => absurd z (by omega)⟩
    have gr0 : gr a 0 0 := ⟨fun t ht => absurd ht (by omega), fun x hx => absurd hx (by omega)⟩
    have mp0 : mp a 0 0 := fun i hi => Or.inl (f5 i (by omega))
    have sz0 : ∀ l, l < 4 → sz a l = 0 := fun l hl => by
      unfold sz
      rw [fl l hl]
      rfl
    have sS0 : sS a = 0 := by
      unfold sS
      rw [sz0 0 (by decide), sz0 1 (by decide), sz0 2 (by decide), sz0 3 (by decide)]
    have cn0 : ∀ f : Nat → Int32, (∀ g, g < 61 → (f g).toInt = 0) → cn f 61 = 0 := by
      intro f hf
      have : ∀ k, k ≤ 61 → cn f k = 0 := by
        intro k
        induction k with
        | zero => intro _; rfl
        | succ k ihk =>
          intro hk
          rw [cn_s, ihk (by omega), if_pos (hf k (by omega))]
      exact this 61 (Nat.le_refl _)
    have gi0 : gi (va_up (va_up v 12 576) 13 (576 + p2)) a 0 0 (fun _ => False) 0 := by
      refine ⟨⟨fun l hl => by rw [fl l hl]; decide, fun l hl i hi => absurd hi (by rw [sz0 l hl]; omega), fun l l' hl hl' i i' hi hi' => absurd hi (by rw [sz0 l hl]; omega)⟩, ⟨0, h40, cn0 _ (fun g hg => (fg g hg).2), by rw [sS0]; exact cn0 _ (fun g hg => (fg g hg).1), by rw [sS0]; decide⟩, fun g hg => ?_, fun g hg q => absurd (fg g hg).1 q⟩
      rw [(fg g hg).2]
      exact ⟨by decide, by decide, fun y => absurd rfl y⟩
    have e13 : (576 + p2).toInt = ((576 + n : Nat) : Int) := i32_add (by rw [hp2, show ((576 : Int32)).toInt = 576 from by decide]; omega) (by omega) (by omega)
    refine c_bear (v := va_up (va_up v 12 576) 13 (576 + p2)) (T := T) (b := 576) (n := n) (c := 0) (w := 0) e13 (by omega) fT (by decide) (by decide) (by decide) gr0 h38 mp0 (fun v2 a2 w2 u1 u2 u3 u4 u5 u6 u7 u8 => ?_)
    have tv : tV v2 a2 T 576 n 0 := ⟨by rw [u7 12 (by decide)]; rfl, by rw [u7 13 (by decide)]; exact e13, by omega, by omega, by rw [u8 1 (by decide) (by decide)]; exact fT⟩
    refine c_ask185 (c := 0) (w := w2) hn (by omega) hQ tv ⟨u3, by rw [u7 37 (by decide)]; exact h37, u6, gi0.of (Nat.le_refl _) (by omega) (u7 40 (by decide)) (fun j hj => u8 j (by omega) (by omega))⟩ rfl u4 u5 (fun r v3 a3 c3 q1 q2 q3 q4 q5 q6 q7 q8 => ?_) 26 0 0 a2 (by decide) (by omega) fr.rfl' (fun i hi => absurd hi (by omega))
    refine hK r v3 a3 c3 w2 (by omega) q1 q2 (by rw [q6 38 (by decide)]; exact u4) q3 q4 q5 ?_ (((oA.sub (by decide)).trans (fun j hj => u8 j (nin hj (by decide)) (nin hj (by decide)))).trans (q7.sub (by decide))) q8
    exact (((fr.rfl'.up (by decide)).up (by decide)).trans (fun j hj => u7 j (nin hj (by decide)))).trans (q6.sub (by decide))
  | succ k ih =>
    intro u p3 a h3 hu fT fg fl f5 oA
    refine r_121_140 ⟨fun z => absurd z (by omega), fun _ => ⟨by omega, by omega, ?_⟩⟩
    rw [i32_cl h3]
    refine ih (u + 1) (p3 + 1) _ (by rw [i32_succ (by omega) (by omega)]; omega) (by omega) fT fg fl (fun i hi => ?_) (oA.up (by decide))
    show (upd (a 5) u 2147483647 i).toInt = _
    by_cases e : i = u
    · subst e
      rw [ud_eq]
      decide
    · rw [ud_ne e]
      exact f5 i (by omega)
/-- the GOALS of the last QUESTION go -/
theorem c_ask103 {p1 p2 : Int32} {T : Nat → Int32} {n N : Nat} (hn : n ≤ 48) (hp2 : p2.toInt = (n : Int)) (hQ : gQ T n 0 = some N) {v : Nat → Int32} {a0 : Nat → Nat → Int32} (h37 : (v 37).toInt = 0) (h38 : (v 38).toInt = 0) (h40 : (v 40).toInt = 0)
    (hK : ∀ r v1 a1 c1 w1, w1 ≤ 26 → gr a1 c1 w1 → (v1 37).toInt = (c1 : Int) → (v1 38).toInt = (w1 : Int) → c1 ≤ 49 → gi v1 a1 c1 w1 (fun _ => False) 0 → (∀ u, u < 26 → (a1 6 u).toInt = 2147483647 ∨ rf c1 w1 (a1 6 u)) → fr [11, 12, 13, 37, 38] v v1 → fr aB a0 a1 → ((v1 11).toInt = 0 → r.toInt = (N : Int)) → K r v1 a1) : ∀ (k u : Nat) (p3 : Int32) (a : Nat → Nat → Int32), p3.toInt = (u : Int) → u + k = 61 → (∀ i, i < n → a 1 (576 + i) = T i) → (∀ g, g < u → (a 30 g).toInt = 0 ∧ (a 25 g).toInt = 0) → (∀ l, l < 4 → l < u → (a 28 l).toInt = 0) → fr [25, 28, 30] a0 a → mT 5 sM_121 103 [(0, .ref 33), (1, .int p1), (2, .int p2), (3, .int p3)] [] v a K := by
  intro k
  induction k with
  | zero =>
    intro u p3 a h3 hu fT fg fl oA
    refine r_121_103 ⟨fun _ => ?_, fun z => absurd z (by omega)⟩
    exact c_ask140 (a0 := a) hn hp2 hQ h37 h38 h40 (fun r v1 a1 c1 w1 q1 q2 q3 q4 q5 q6 q7 q8 q9 q10 => hK r v1 a1 c1 w1 q1 q2 q3 q4 q5 q6 q7 q8 ((oA.sub (by decide)).trans q9) q10) 26 0 0 a (by decide) (by omega) fT (fun g hg => fg g (by omega)) (fun l hl => fl l hl (by omega)) (fun i hi => absurd hi (by omega)) fr.rfl'
  | succ k ih =>
    intro u p3 a h3 hu fT fg fl oA
    have e4 := m_rem4 h3 (by omega)
    have hm : u % 4 < 4 := Nat.mod_lt _ (by decide)
    refine r_121_103 ⟨fun z => absurd z (by omega), fun _ => ⟨by omega, by omega, by omega, by omega, by omega, by omega, ?_⟩⟩
    rw [i32_cl h3, i32_cl e4]
    refine ih (u + 1) (p3 + 1) _ (by rw [i32_succ (by omega) (by omega)]; omega) (by omega) fT (fun g hg => ?_) (fun l hl hlu => ?_) (((oA.up (by decide)).up (by decide)).up (by decide))
    · show (upd (a 30) u 0 g).toInt = 0 ∧ (upd (a 25) u 0 g).toInt = 0
      by_cases e : g = u
      · subst e
        rw [ud_eq, ud_eq]
        decide
      · rw [ud_ne e, ud_ne e]
        exact fg g (by omega)
    · show (upd (a 28) (u % 4) 0 l).toInt = 0
      by_cases e : l = u % 4
      · subst e
        rw [ud_eq]
        decide
      · rw [ud_ne e]
        exact fl l hl (by omega)
/-- ask(), a QUESTION that can be read -/
theorem c_ask44 {p1 p2 : Int32} {n N : Nat} (hn : n ≤ 48) (hp2 : p2.toInt = (n : Int)) {v : Nat → Int32} {a0 : Nat → Nat → Int32} (hQ : gQ (a0 0) n 0 = some N)
    (hK : ∀ r v1 a1 c1 w1, w1 ≤ 26 → gr a1 c1 w1 → (v1 37).toInt = (c1 : Int) → (v1 38).toInt = (w1 : Int) → c1 ≤ 49 → gi v1 a1 c1 w1 (fun _ => False) 0 → (∀ u, u < 26 → (a1 6 u).toInt = 2147483647 ∨ rf c1 w1 (a1 6 u)) → fr [11, 12, 13, 37, 38, 39, 40, 41, 42] v v1 → (v1 39).toInt = 0 → (v1 42).toInt = 1 → fr (1 :: aB) a0 a1 → (∀ y, y < 576 → a1 1 y = a0 1 y) → ((v1 11).toInt = 0 → r.toInt = (N : Int)) → K r v1 a1) : ∀ (k j : Nat) (p3 : Int32) (a : Nat → Nat → Int32), p3.toInt = (j : Int) → j + k = n → (∀ i, i < j → a 1 (576 + i) = a0 0 i) → (∀ y, y < 576 → a 1 y = a0 1 y) → fr [1] a0 a → mT 5 sM_121 44 [(0, .ref 33), (1, .int p1), (2, .int p2), (3, .int p3)] [] v a K := by
  intro k
  induction k with
  | zero =>
    intro j p3 a h3 hj fT fy oA
    refine r_121_44 ⟨fun _ => ?_, fun z => absurd z (by omega)⟩
    refine c_ask103 (T := a0 0) (a0 := a) (v := va_up (va_up (va_up (va_up (va_up (va_up v 41 0) 40 0) 39 0) 38 0) 37 0) 42 1) hn hp2 hQ rfl rfl rfl (fun r v1 a1 c1 w1 q1 q2 q3 q4 q5 q6 q7 q8 q9 q10 => hK r v1 a1 c1 w1 q1 q2 q3 q4 q5 q6 q7 ?_ ?_ ?_ ((oA.sub (by decide)).trans (q9.sub (by decide))) (fun y hy => by rw [q9 1 (by decide)]; exact fy y hy) q10) 61 0 0 a (by decide) (by omega) (fun i hi => fT i (by omega)) (fun g hg => absurd hg (by omega)) (fun l hl h => absurd h (by omega)) fr.rfl'
    · exact ((((((fr.rfl'.up (by decide)).up (by decide)).up (by decide)).up (by decide)).up (by decide)).up (by decide)).trans (q8.sub (by decide))
    · rw [q8 39 (by decide)]
      rfl
    · rw [q8 42 (by decide)]
      rfl
  | succ k ih =>
    intro j p3 a h3 hj fT fy oA
    have e1 : (576 + p3).toInt = ((576 + j : Nat) : Int) := i32_add (by rw [h3, show ((576 : Int32)).toInt = 576 from by decide]; omega) (by omega) (by omega)
    refine r_121_44 ⟨fun z => absurd z (by omega), fun _ => ⟨by omega, by omega, by omega, by omega, ?_⟩⟩
    rw [i32_cl e1, i32_cl h3]
    refine ih (j + 1) (p3 + 1) _ (by rw [i32_succ (by omega) (by omega)]; omega) (by omega) (fun i hi => ?_) (fun y hy => ?_) (oA.up (by decide))
    · show upd (a 1) (576 + j) (a 0 j) (576 + i) = _
      by_cases e : i = j
      · subst e
        rw [ud_eq, oA 0 (by decide)]
      · rw [ud_ne (by omega)]
        exact fT i (by omega)
    · show upd (a 1) (576 + j) _ y = _
      rw [ud_ne (by omega)]
      exact fy y hy
/-- ask() -/
theorem c_ask {v : Nat → Int32} {a : Nat → Nat → Int32} {n : Nat} (hM : mI v a) (h7 : (v 7).toInt = (n : Int)) (hKF : gQ (a 0) n 0 = none → ∀ v1 a1, mI v1 a1 → (v1 7).toInt = 0 → v1 8 = v 8 → (v1 11).toInt = 1 → K 0 v1 a1) (hKT : ∀ N, gQ (a 0) n 0 = some N → ∀ r v1 a1, mI v1 a1 → (v1 7).toInt = 0 → v1 8 = v 8 → ((v1 11).toInt = 0 → r.toInt = (N : Int)) → K r v1 a1) : mT 5 sM_121 0 [(0, .ref 33)] [] v a K := by
  obtain ⟨m1, ⟨C, hC, h8, hct⟩, m3⟩ := id hM
  have hS : rS (va_up v 10 0) a (a 0) n 0 := ⟨h7, by show (0 : Int32).toInt = _; decide, by omega, by omega, rfl⟩
  refine r_121_0 (c_readGoals hS (fun v2 a2 o => ?_))
  obtain ⟨oV, oA⟩ := o.frV
  have oV' : fr [10] v v2 := (fr.rfl'.up (by decide)).trans oV
  have h72 : (v2 7).toInt = (n : Int) := by rw [oV' 7 (by decide)]; exact h7
  cases hq : gQ (a 0) n 0 with
  | none =>
    refine ⟨fun z => absurd (by decide) z, fun _ => ⟨fun _ => ⟨fun z => absurd (by decide) z, fun _ => hKF hq _ a2 ⟨⟨by show 0 ≤ (0 : Int32).toInt; decide, by show (0 : Int32).toInt ≤ 48; decide⟩, ⟨C, hC, by show (v2 8).toInt = _; rw [oV' 8 (by decide)]; exact h8, by intro ci hci; rw [oA 1 (by decide), oA 2 (by decide)]; exact hct ci hci⟩, ?_⟩ (by show (0 : Int32).toInt = 0; decide) (oV' 8 (by decide)) (by show (1 : Int32).toInt = 1; decide)⟩, fun z => absurd (by decide) z⟩⟩
    show (v2 42).toInt = 0 ∨ _
    rw [oV' 42 (by decide)]
    exact m3.imp id (fun q => q.keep ((((oV'.sub (by decide)).up (by decide)).up (by decide)).up (by decide)) (oA.sub (by decide)))
  | some N =>
    have h1 : ¬ (b2 (some N).isSome).toInt = 0 := show ¬ (1 : Int32).toInt = 0 by decide
    refine ⟨fun _ => ⟨fun z => absurd z h1, fun _ => ⟨fun _ => ?_, fun z => absurd z h1⟩⟩, fun z => absurd z h1⟩
    refine c_ask44 (a0 := a2) (v := va_up (va_up v2 7 0) 11 0) (by omega) h72 (by rw [oA 0 (by decide)]; exact hq) (fun r v3 a3 c3 w3 q1 q2 q3 q4 q5 q6 q7 q8 q9 q10 q11 q12 q13 => hKT N hq r v3 a3 ⟨?_, ⟨C, hC, ?_, ?_⟩, Or.inr ⟨c3, w3, q2, q3, q4, by omega, by omega, by omega, q6.slp, q7, fun _ => q6⟩⟩ ?_ ?_ q13) n 0 0 a2 (by decide) (by omega) (fun i hi => absurd hi (by omega)) (fun _ _ => rfl) fr.rfl'
    · rw [q8 7 (by decide)]
      exact ⟨by show 0 ≤ (0 : Int32).toInt; decide, by show (0 : Int32).toInt ≤ 48; decide⟩
    · rw [q8 8 (by decide)]
      show (v2 8).toInt = _
      rw [oV' 8 (by decide)]
      exact h8
    · intro ci hci
      obtain ⟨T, n', k1, k2, k3, k4⟩ := hct ci hci
      refine ⟨T, n', k1, by rw [q11 2 (by decide), oA 2 (by decide)]; exact k2, fun i hi => ?_, k4⟩
      rw [q12 _ (by omega), oA 1 (by decide)]
      exact k3 i hi
    · rw [q8 7 (by decide)]
      show (0 : Int32).toInt = 0
      decide
    · rw [q8 8 (by decide)]
      exact oV' 8 (by decide)
end AK
