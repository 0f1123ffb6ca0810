/-! THE CLASS AND THE REFERENCE beside each other: what both keep between two calls, and each call of the law on the one and on the other -/
def l_S (L : Nat) (xs : Nat → Int32) (N : Nat) (G : Nat → sx_C) (F : Nat → Prop) (T : Nat → Int32) (n s P : Nat) (v : Nat → Int32) (a : Nat → Nat → Int32) : Prop := q_cI N G F T n s P ∧ (∀ q, 33 ≤ q → q ≤ 63 → G q = mQ v a q) ∧ mI v a ∧ (∃ g : Nat → Int64, G 64 = .inl (3, (1, .inr (.inl g)))) ∧ G 0 = .inl (0, (L, .inl xs))
/-- both hold the same text; B: as many CLAUSES too -/
def l_Y (B : Prop) (T : Nat → Int32) (n s : Nat) (v : Nat → Int32) (a : Nat → Nat → Int32) : Prop := (v 7).toInt = (n : Int) ∧ (∀ i, i < n → a 0 i = T i) ∧ (B → (v 8).toInt = (s : Int))
section LS
variable {L N N1 n n1 s s1 P P1 h pc : Nat} {xs T T1 : Nat → Int32} {G G1 : Nat → sx_C} {F F1 : Nat → Prop} {v v1 : Nat → Int32} {a a1 : Nat → Nat → Int32} {M : sx_M} {lv : List (Nat × Value)} {st : List Value} {K : Option Value ⊕ Nat → Nat → (Nat → sx_C) → Nat → Nat → Prop}
theorem l_S.fr (hS : l_S L xs N G F T n s P v a) (h1 : q_cI N1 G1 F1 T1 n1 s1 P1) (hf : q_fr G G1) : l_S L xs N1 G1 F1 T1 n1 s1 P1 v a := by
  obtain ⟨-, k2, k3, ⟨g, k4⟩, k5⟩ := hS
  exact ⟨h1, fun q q1 q2 => (hf q (Or.inr ⟨q1, by omega⟩)).trans (k2 q q1 q2), k3, ⟨g, (hf 64 (Or.inr ⟨by decide, by decide⟩)).trans k4⟩, (hf 0 (Or.inl rfl)).trans k5⟩
theorem l_S.out (hS : l_S L xs N G F T n s P v a) {g1 : Nat → Int64} : l_S L xs N (va_up G 64 (.inl (3, (1, .inr (.inl g1))))) F T n s P v a := by
  obtain ⟨k1, k2, k3, ⟨g, k4⟩, k5⟩ := hS
  exact ⟨k1.out k4, fun q q1 q2 => (va_ne (by omega)).trans (k2 q q1 q2), k3, ⟨g1, up_eq⟩, (va_ne (by decide)).trans k5⟩
theorem l_S.ref (hS : l_S L xs N G F T n s P v a) (hM : mI v1 a1) : l_S L xs N (mG G v1 a1) F T n s P v1 a1 := by
  obtain ⟨k1, k2, k3, ⟨g, k4⟩, k5⟩ := hS
  exact ⟨k1.ref k2, fun q q1 q2 => mG_in ⟨q1, q2⟩, hM, ⟨g, (mG_out (by decide)).trans k4⟩, (mG_out (by decide)).trans k5⟩
theorem l_S.e5 (hS : l_S L xs N G F T n s P v a) : 5 < N ∧ ∃ f, G 5 = oC 0 f := by
  have := hS.1.z.1
  obtain ⟨⟨u, c, mk, nb, cnt, x, nn, pl, sz, m, f, ⟨-, -, -, e5, -⟩, -⟩, -⟩ := hS
  exact ⟨by omega, _, e5⟩
theorem l_S.e33 (hS : l_S L xs N G F T n s P v a) : 33 < N ∧ ∃ f, G 33 = oC 12 f := by
  have := hS.1.z.1
  exact ⟨by omega, _, hS.2.1 33 (by decide) (by decide)⟩
theorem l_S.e0 (hS : l_S L xs N G F T n s P v a) : 0 < N ∧ G 0 = .inl (0, (L, .inl xs)) := by
  have := hS.1.z.1
  exact ⟨by omega, hS.2.2.2.2⟩
/-- a method of the REFERENCE, over the one heap -/
theorem l_ref (hS : l_S L xs N G F T n s P v a) (hm : mT h M pc lv st v a (fun r v1 a1 => K (.inl (mV M.2.2.2.1 r)) N (mG G v1 a1) 0 0)) : cT h M pc lv st N G K := by
  obtain ⟨k1, k2, -⟩ := hS
  have hN : 64 ≤ N := by have := k1.z.1; omega
  have e := mH_G (G := G) (v := v) (a := a) hN
  rw [mG_id k2] at e
  intro d dc ds P hP
  rw [e]
  refine hm _ _ d dc ds P (fun r v1 a1 q => ?_)
  have w := hP _ _ _ _ _ q
  rw [mH_G hN] at w
  exact w
theorem l_call (hS : l_S L xs N G F T n s P v a) (hh : h ≤ 509) (hm : mT h M 0 lv [] v a (fun r v1 a1 => mI v1 a1 ∧ ∀ G1, l_S L xs N G1 F T n s P v1 a1 → G1 64 = G 64 → K (.inl (mV M.2.2.2.1 r)) N G1 0 0)) : cT 509 M 0 lv [] N G K :=
  (l_ref hS (hm.mono (fun r v1 a1 q => q.2 _ (hS.ref q.1) (mG_out (by decide))))).dep hh
theorem c_thrown {v : Nat → Int32} {a : Nat → Nat → Int32} {K : Int32 → (Nat → Int32) → (Nat → Nat → Int32) → Prop} (hk : K (v 11) v a) : mT 0 sM_109 0 [(0, .ref 33)] [] v a K := fun A B d dc ds P hP => m_thrown (hP _ _ _ hk)
/-- type, on the class -/
theorem lh_type {e : Int64} (hS : l_S L xs N G F T n s P v a)
    (hK1 : tok e 8 = false → ∀ N1 G1, l_S L xs N1 G1 F T n s P v a → K (.inl (some (.int 1))) N1 G1 1 6)
    (hK2 : tok e 8 = true → 48 < n + (tl e 8).length → ∀ N1 G1, l_S L xs N1 G1 F T n s P v a → K (.inl (some (.int 2))) N1 G1 1 6)
    (hK3 : tok e 8 = true → n + (tl e 8).length ≤ 48 → ∀ G1 T1 g (w : Int32), l_S L xs N G1 F T1 (n + (tl e 8).length) s P v a → G1 64 = .inl (3, (1, .inr (.inl g))) → g 0 = Int32.toInt64 w → w.toInt = ((n + (tl e 8).length : Nat) : Int) → (∀ i, i < n → T1 i = T i) → (∀ k x, (tl e 8)[k]? = some x → T1 (n + k) = x) → K (.inl (some (.int 0))) N G1 0 0) : cT 509 sM_18 0 [(0, .ref 5), (1, .long e), (3, .ref 64)] [] N G K := by
  have hz := hS.1.z.1
  obtain ⟨q5, f5, e5⟩ := hS.e5
  refine kh_18 (h := 508) ⟨q5, f5, e5, (j_type hS.1 (fun q G1 i1 i2 i3 => Or.inr ⟨N, rfl, by omega, by omega, Or.inl ⟨i3, hK1 q _ _ (hS.fr i1 i2)⟩⟩) (fun q q' G1 i1 i2 i3 => Or.inr ⟨N, rfl, by omega, by omega, Or.inr ⟨i3, hK2 q q' _ _ (hS.fr i1 i2)⟩⟩) (fun q q' G1 T1 w i1 i2 i3 i4 i5 => Or.inl ?_)).dep (by decide)⟩
  have h1 := hS.fr i1 i2
  obtain ⟨g, e64⟩ := id h1.2.2.2.1
  exact ⟨w, rfl, hz, g, e64, hK3 q q' _ T1 _ w h1.out up_eq (if_pos rfl) i3 i4 i5⟩
/-- add, on the class -/
theorem lh_add (hS : l_S L xs N G F T n s P v a)
    (hK12 : s = 12 → ∀ N1 G1, l_S L xs N1 G1 F T 0 s P v a → K (.inl (some (.int 2))) N1 G1 1 6)
    (hKT : s < 12 → pC T n = true → ∀ N1 G1 F1 kc ks P1 g (w : Int32), l_S L xs N1 G1 F1 T 0 (s + 1) P1 v a → q_ro P P1 kc ks → G1 64 = .inl (3, (1, .inr (.inl g))) → g 0 = Int32.toInt64 w → w.toInt = ((s + 1 : Nat) : Int) → K (.inl (some (.int 0))) N1 G1 kc ks)
    (hKF : s < 12 → pC T n = false → ∀ N1 G1 F1 kc ks P1, l_S L xs N1 G1 F1 T 0 s P1 v a → q_ro P P1 kc ks → K (.inl (some (.int 1))) N1 G1 kc ks) : cT 509 sM_22 0 [(0, .ref 5), (1, .ref 64)] [] N G K := by
  have hz := hS.1.z.1
  obtain ⟨q5, f5, e5⟩ := hS.e5
  refine kh_22 (h := 508) ⟨q5, f5, e5, (j_Add hS.1 (fun q G1 i1 i2 i3 => Or.inr ⟨N, rfl, by omega, by omega, Or.inr ⟨i3, hK12 q _ _ (hS.fr i1 i2)⟩⟩) (fun q q' w N1 G1 F1 kc ks P1 i1 i2 i3 i4 i5 => Or.inl ?_) (fun q q' r N1 G1 F1 kc ks P1 i1 i2 i3 i4 ⟨x, y1, y2, y3, y4⟩ => Or.inr ⟨x, y1, y2, y3, Or.inl ⟨y4, hKF q q' _ _ F1 _ _ P1 (hS.fr i1 i2) i4⟩⟩)).dep (by decide)⟩
  have h1 := hS.fr i1 i2
  obtain ⟨g, e64⟩ := id h1.2.2.2.1
  exact ⟨w, rfl, by omega, g, e64, hKT q q' _ _ F1 _ _ P1 _ w h1.out i4 up_eq (if_pos rfl) i5⟩
/-- drop, on the class -/
theorem lh_drop {p1 : Int32} (hS : l_S L xs N G F T n s P v a)
    (hKT : 0 ≤ p1.toInt → p1.toInt < (s : Int) → ∀ G1 s1, s1 + 1 = s → l_S L xs N G1 F T n s1 P v a → K (.inl (some (.int 0))) N G1 0 0)
    (hKF : (p1.toInt < 0 ∨ (s : Int) ≤ p1.toInt) → ∀ N1 G1, l_S L xs N1 G1 F T n s P v a → K (.inl (some (.int 1))) N1 G1 1 6) : cT 509 sM_43 0 [(0, .ref 5), (1, .int p1)] [] N G K := by
  have hz := hS.1.z.1
  obtain ⟨q5, f5, e5⟩ := hS.e5
  exact kh_43 (h := 508) ⟨q5, f5, e5, (j_Drop hS.1 (fun q q' G1 s1 i0 i1 i2 => Or.inl ⟨rfl, hKT q q' _ s1 i0 (hS.fr i1 i2)⟩) (fun q G1 i1 i2 i3 => Or.inr ⟨N, rfl, by omega, by omega, ⟨i3, hKF q _ _ (hS.fr i1 i2)⟩⟩)).dep (by decide)⟩
/-- ask, on the class -/
theorem lh_ask (hS : l_S L xs N G F T n s P v a)
    (hKT : ∀ m, pQ T n = some m → ∀ N1 G1 F1 kc ks P1 g (w : Int32), l_S L xs N1 G1 F1 T 0 s P1 v a → q_ro P P1 kc ks → G1 64 = .inl (3, (1, .inr (.inl g))) → g 0 = Int32.toInt64 w → w.toInt = (m : Int) → K (.inl (some (.int 0))) N1 G1 kc ks)
    (hKF : pQ T n = none → ∀ N1 G1 F1 kc ks P1, l_S L xs N1 G1 F1 T 0 s P1 v a → q_ro P P1 kc ks → K (.inl (some (.int 1))) N1 G1 kc ks) : cT 509 sM_45 0 [(0, .ref 5), (1, .ref 64)] [] N G K := by
  have hz := hS.1.z.1
  obtain ⟨q5, f5, e5⟩ := hS.e5
  refine kh_45 (h := 508) ⟨q5, f5, e5, (j_Ask hS.1 (fun m q w N1 G1 F1 kc ks P1 i1 i2 i3 i4 i5 => Or.inl ?_) (fun q r N1 G1 F1 kc ks P1 i1 i2 i3 i4 ⟨x, y1, y2, y3, y4⟩ => Or.inr ⟨x, y1, y2, y3, ⟨y4, hKF q _ _ F1 _ _ P1 (hS.fr i1 i2) i4⟩⟩)).dep (by decide)⟩
  have h1 := hS.fr i1 i2
  obtain ⟨g, e64⟩ := id h1.2.2.2.1
  exact ⟨w, rfl, by omega, g, e64, hKT m q _ _ F1 _ _ P1 _ w h1.out i4 up_eq (if_pos rfl) i5⟩
/-- run, on the class -/
theorem lh_run {p1 : Int32} (hS : l_S L xs N G F T n s P v a) (hK : ∀ (w : Int32) N1 G1 P1 kc ks, l_S L xs N1 G1 F T n s P1 v a → q_ro P P1 kc ks → K (.inl (some (.int w))) N1 G1 kc ks) : cT 509 sM_66 0 [(0, .ref 5), (1, .int p1), (2, .ref 64)] [] N G K := by
  have hz := hS.1.z.1
  obtain ⟨q5, f5, e5⟩ := hS.e5
  refine kh_66 (h := 508) ⟨q5, f5, e5, (j_Run hS.1 (fun r N1 G1 kc ks P1 i1 i2 i3 i4 i5 => ?_)).dep (by decide)⟩
  have h1 := hS.fr i1 i2
  obtain ⟨g, e64⟩ := id h1.2.2.2.1
  rcases i5 with ⟨w, i5⟩ | ⟨x, y1, y2, y3, y4⟩ | ⟨x, y1, y2, y3, y4⟩ | ⟨x, y1, y2, y3, y4⟩
  · exact Or.inl ⟨w, i5, by omega, g, e64, hK _ _ _ P1 _ _ h1.out i4⟩
  · exact Or.inr ⟨x, y1, y2, y3, Or.inl ⟨y4, hK _ _ _ P1 _ _ h1 i4⟩⟩
  · exact Or.inr ⟨x, y1, y2, y3, Or.inr (Or.inl ⟨y4, hK _ _ _ P1 _ _ h1 i4⟩)⟩
  · exact Or.inr ⟨x, y1, y2, y3, Or.inr (Or.inr ⟨y4, hK _ _ _ P1 _ _ h1 i4⟩)⟩
/-- letter, on the class -/
theorem lh_letter {p1 p2 : Int32} (hS : l_S L xs N G F T n s P v a) (hK : ∀ (w : Int32) N1 G1 P1 kc ks, l_S L xs N1 G1 F T n s P1 v a → q_ro P P1 kc ks → K (.inl (some (.int w))) N1 G1 kc ks) : cT 509 sM_101 0 [(0, .ref 5), (1, .int p1), (2, .int p2), (3, .ref 64)] [] N G K := by
  have hz := hS.1.z.1
  obtain ⟨q5, f5, e5⟩ := hS.e5
  refine kh_101 (h := 508) ⟨q5, f5, e5, (j_Letter hS.1 (fun r N1 G1 kc ks P1 i1 i2 i3 i4 i5 => ?_)).dep (by decide)⟩
  have h1 := hS.fr i1 i2
  obtain ⟨g, e64⟩ := id h1.2.2.2.1
  rcases i5 with ⟨w, i5⟩ | ⟨x, y1, y2, y3, y4⟩ | ⟨x, y1, y2, y3, y4⟩
  · exact Or.inl ⟨w, i5, by omega, g, e64, hK _ _ _ P1 _ _ h1.out i4⟩
  · exact Or.inr ⟨x, y1, y2, y3, Or.inl ⟨y4, hK _ _ _ P1 _ _ h1 i4⟩⟩
  · exact Or.inr ⟨x, y1, y2, y3, Or.inr ⟨y4, hK _ _ _ P1 _ _ h1 i4⟩⟩
/-- sleeping, on the class -/
theorem lh_sleeping {p1 : Int32} (hS : l_S L xs N G F T n s P v a) (hK : ∀ (w : Int32) N1 G1 P1 kc ks, l_S L xs N1 G1 F T n s P1 v a → q_ro P P1 kc ks → K (.inl (some (.int w))) N1 G1 kc ks) : cT 509 sM_105 0 [(0, .ref 5), (1, .int p1), (2, .ref 64)] [] N G K := by
  have hz := hS.1.z.1
  obtain ⟨q5, f5, e5⟩ := hS.e5
  refine kh_105 (h := 508) ⟨q5, f5, e5, (j_Sleeping hS.1 (fun r N1 G1 kc ks P1 i1 i2 i3 i4 i5 => ?_)).dep (by decide)⟩
  have h1 := hS.fr i1 i2
  obtain ⟨g, e64⟩ := id h1.2.2.2.1
  rcases i5 with ⟨w, i5⟩ | ⟨x, y1, y2, y3, y4⟩
  · exact Or.inl ⟨w, i5, by omega, g, e64, hK _ _ _ P1 _ _ h1.out i4⟩
  · exact Or.inr ⟨x, y1, y2, y3, ⟨y4, hK _ _ _ P1 _ _ h1 i4⟩⟩
/-- the REFERENCE behind type -/
theorem mI.text {v v1 : Nat → Int32} {a a1 : Nat → Nat → Int32} (hM : mI v a) (o1 : fr [7, 11] v v1) (o2 : fr [0] a a1) (h7 : 0 ≤ (v1 7).toInt ∧ (v1 7).toInt ≤ 48) : mI v1 a1 := by
  obtain ⟨m1, ⟨C, hC, h8, hct⟩, m3⟩ := hM
  refine ⟨h7, ⟨C, hC, by rw [o1 8 (by decide)]; exact h8, by intro ci hci; rw [o2 1 (by decide), o2 2 (by decide)]; exact hct ci hci⟩, ?_⟩
  rw [o1 42 (by decide)]
  exact m3.imp id (fun q => q.keep (o1.sub (by decide)) (o2.sub (by decide)))
end LS
