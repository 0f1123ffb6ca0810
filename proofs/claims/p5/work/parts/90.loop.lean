/-! THE LAW: its loop over the script, call by call (by program: wip/sx/gen_loop.py) -/
section LL
variable {L N n s P : Nat} {xs T : Nat → Int32} {G : Nat → sx_C} {F : Nat → Prop} {v : Nat → Int32} {a : Nat → Nat → Int32}
/-- the law's end: true, and the room of k more calls -/
def l_E (P k : Nat) (r : Option Value ⊕ Nat) (kc ks : Nat) : Prop := r = .inl (some (.int 1)) ∧ kc + P ≤ 81000 + 400 * k ∧ ks + 8 * P ≤ 648000 + 3200 * k
theorem l_E.step {P P1 k kc ks kcz ksz : Nat} {r : Option Value ⊕ Nat} (h : l_E P1 k r kcz ksz) (hr : q_ro P P1 kc ks) : l_E P (k + 1) r (kc + kcz) (ks + ksz) := by
  obtain ⟨h1, h2, h3⟩ := h
  obtain ⟨h4, h5⟩ := hr
  exact ⟨h1, by omega, by omega⟩
theorem q_ro.one : q_ro P P 1 6 := ⟨by omega, by omega⟩
theorem q_ro.zero : q_ro P P 0 0 := ⟨by omega, by omega⟩
theorem lg_same (x : Int64) : (lg_cmp x x).toInt = 0 := by
  unfold lg_cmp
  rw [if_neg (fun h => Int64.lt_irrefl h), if_pos rfl]
  rfl
theorem l_ofN (hL : L ≤ 1536) : ((Int32.ofNat L) - 3).toInt = (L : Int) - 3 := by
  have e : (Int32.ofNat L).toInt = (L : Int) := nI_toInt (by omega)
  rw [i32_sub (s := (L : Int) - 3) (by rw [e]; rfl) (by omega) (by omega)]
/-- a text grown on both sides by the same characters -/
theorem l_grow {B : Prop} {T1 : Nat → Int32} {a1 : Nat → Nat → Int32} {v1 : Nat → Int32} {l : List Int32} (h : l_Y B T n s v a) (h7 : (v1 7).toInt = ((n + l.length : Nat) : Int)) (h8 : v1 8 = v 8) (t1 : ∀ i, i < n → T1 i = T i) (t2 : ∀ k x, l[k]? = some x → T1 (n + k) = x) (u1 : ∀ i, i < n → a1 0 i = a 0 i) (u2 : ∀ k x, l[k]? = some x → a1 0 (n + k) = x) : l_Y B T1 (n + l.length) s v1 a1 := by
  refine ⟨h7, fun i hi => ?_, fun b => by rw [h8]; exact h.2.2 b⟩
  by_cases z : i < n
  · rw [u1 i z, t1 i z]
    exact h.2.1 i z
  · have hk : i - n < l.length := by omega
    have e : l[i - n]? = some l[i - n] := List.getElem?_eq_getElem hk
    have e1 := t2 _ _ e
    have e2 := u2 _ _ e
    rw [show n + (i - n) = i from by omega] at e1 e2
    rw [e1, e2]
theorem l_Y.keep {B : Prop} {v1 : Nat → Int32} {a1 : Nat → Nat → Int32} (h : l_Y B T n s v a) (h7 : v1 7 = v 7) (h8 : v1 8 = v 8) (h0 : a1 0 = a 0) : l_Y B T n s v1 a1 := by
  unfold l_Y
  rw [h7, h8, h0]
  exact h
theorem kO.Y {B : Prop} {v1 : Nat → Int32} {a1 : Nat → Nat → Int32} (h : l_Y B T n s v a) (k : kO v a v1 a1) : l_Y B T n s v1 a1 := h.keep (k.2.1 7 (by decide)) (k.2.1 8 (by decide)) (k.2.2 0 (by decide))
theorem l_loop (hL : L ≤ 1536) : ∀ (k : Nat) (i : Int32) (N : Nat) (G : Nat → sx_C) (F : Nat → Prop) (T : Nat → Int32) (n s P : Nat) (v : Nat → Int32) (a : Nat → Nat → Int32), l_S L xs N G F T n s P v a → l_Y True T n s v a → 0 ≤ i.toInt → i.toInt ≤ 1600 → (L : Int) < i.toInt + 3 * (k : Int) + 3 → cT 510 sM_law 23 [(4, .int i), (3, .ref 64), (2, .ref 33), (1, .ref 5), (0, .ref 0)] [] N G (fun r _ _ kc ks => l_E P k r kc ks) := by
  intro k
  induction k with
  | zero =>
    intro i N G F T n s P v a hS hY h0 h16 hk
    have hz := hS.1.z
    refine kl_23 (L := L) (xs := xs) ⟨hS.e0.1, hS.e0.2, fun _ => ⟨rfl, by omega, by omega⟩, fun q => absurd q ?_⟩
    rw [l_ofN hL]
    omega
  | succ k ih =>
    intro i N G F T n s P v a hS hY h0 h16 hk
    have hz := hS.1.z
    have go : ∀ (N1 : Nat) (G1 : Nat → sx_C) (F1 : Nat → Prop) (T1 : Nat → Int32) (n1 s1 P1 : Nat) (v1 : Nat → Int32) (a1 : Nat → Nat → Int32) (kc ks : Nat), l_S L xs N1 G1 F1 T1 n1 s1 P1 v1 a1 → l_Y True T1 n1 s1 v1 a1 → q_ro P P1 kc ks → i.toInt ≤ 1533 → cT 510 sM_law 23 [(4, .int (i + 3)), (3, .ref 64), (2, .ref 33), (1, .ref 5), (0, .ref 0)] [] N1 G1 (fun r Nz Gz kcz ksz => l_E P (k + 1) r (kc + kcz) (ks + ksz)) := by
      intro N1 G1 F1 T1 n1 s1 P1 v1 a1 kc ks hS1 hY1 hr h15
      have e3 : (i + 3).toInt = i.toInt + 3 := i32_add rfl (by omega) (by omega)
      exact (ih (i + 3) N1 G1 F1 T1 n1 s1 P1 v1 a1 hS1 hY1 (by omega) (by omega) (by omega)).mono (fun r Nz Gz kcz ksz q => q.step hr)
    refine kl_23 (L := L) (xs := xs) ⟨hS.e0.1, hS.e0.2, fun _ => ⟨rfl, by omega, by omega⟩, fun q => ?_⟩
    rw [l_ofN hL] at q
    have h15 : i.toInt ≤ 1533 := by omega
    have e1 : (i + 1).toInt = i.toInt + 1 := i32_add rfl (by omega) (by omega)
    have e2 : (i + 2).toInt = i.toInt + 2 := i32_add rfl (by omega) (by omega)
    have a1 : 0 ≤ (i + 1).toInt := by omega
    have b1 : (i + 1).toInt < (L : Nat) := by omega
    have a2 : 0 ≤ (i + 2).toInt := by omega
    have b2 : (i + 2).toInt < (L : Nat) := by omega
    have hM := hS.2.2.1
    have h8 := hY.2.2 trivial
    have hC : gCl (a 0) n = pC T n := by rw [← pC_gCl hz.2.1, pC_eq hY.2.1]
    have hQ : gQ (a 0) n 0 = pQ T n := by rw [← pQ_gQ hz.2.1, pQ_eq hY.2.1]
    refine ⟨hS.e0.1, hS.e0.2, h0, by omega, fun _ => ?_, fun _ => ?_, fun _ => ?_, fun _ => ?_, fun _ => ?_, fun _ => ?_, fun _ => ?_, fun _ => ?_, fun _ => (go N G F T n s P v a 0 0 hS hY q_ro.zero h15).mono (fun r Nz Gz kcz ksz w => by rw [Nat.zero_add, Nat.zero_add] at w; exact w)⟩
    · refine kl_c0 ⟨hS.e0.1, hS.e0.2, a1, b1, hS.e0.1, hS.e0.2, a2, b2, lh_type hS (fun y N1 G1 i1 => ⟨1, rfl, i1.e0.1, i1.e0.2, a1, b1, i1.e0.1, i1.e0.2, a2, b2, i1.e33.1, i1.e33.2.choose, i1.e33.2.choose_spec, ?_⟩) (fun y y' N1 G1 i1 => ⟨2, rfl, i1.e0.1, i1.e0.2, a1, b1, i1.e0.1, i1.e0.2, a2, b2, i1.e33.1, i1.e33.2.choose, i1.e33.2.choose_spec, ?_⟩) (fun y y' G1 T1 g w i1 i2 i3 i4 i5 i6 => ⟨0, rfl, i1.e0.1, i1.e0.2, a1, b1, i1.e0.1, i1.e0.2, a2, b2, i1.e33.1, i1.e33.2.choose, i1.e33.2.choose_spec, ?_⟩)⟩
      · refine l_call i1 (h := 1) (by decide) (c_type hY.1 hz.2.1 (fun _ => ?_) (fun z => absurd (y.symm.trans z) (by decide)) (fun z => absurd (y.symm.trans z) (by decide)))
        exact ⟨hM.text (fr.rfl'.up (by decide)) fr.rfl' hM.1, fun G2 j1 j2 => ⟨0, rfl, go _ _ _ _ _ _ P _ _ (1) (6) j1 (hY.keep rfl rfl rfl) q_ro.one h15⟩⟩
      · refine l_call i1 (h := 1) (by decide) (c_type hY.1 hz.2.1 (fun z => absurd (y.symm.trans z) (by decide)) (fun _ _ => ?_) (fun _ z => absurd z (by omega)))
        exact ⟨hM.text (fr.rfl'.up (by decide)) fr.rfl' hM.1, fun G2 j1 j2 => ⟨0, rfl, go _ _ _ _ _ _ P _ _ (1) (6) j1 (hY.keep rfl rfl rfl) q_ro.one h15⟩⟩
      · refine l_call i1 (h := 1) (by decide) (c_type hY.1 hz.2.1 (fun z => absurd (y.symm.trans z) (by decide)) (fun _ z => absurd z (by omega)) (fun _ _ v1 a3 o1 o2 o3 o4 o5 o6 => ?_))
        exact ⟨hM.text o1 o2 (by omega), fun G2 j1 j2 => ⟨v1 7, rfl, go _ _ _ _ _ _ P _ _ (0) (0) j1 (l_grow hY o4 (o1 8 (by decide)) i5 i6 o5 o6) q_ro.zero h15⟩⟩
    · refine kl_c1 (L := L) (xs := xs) (lh_add hS (fun y N1 G1 i1 => ⟨2, rfl, i1.e33.1, i1.e33.2.choose, i1.e33.2.choose_spec, l_call i1 (h := 5) (by decide) ?_⟩) (fun y y' N1 G1 F1 kc ks P1 g w i1 i2 i3 i4 i5 => ⟨0, rfl, i1.e33.1, i1.e33.2.choose, i1.e33.2.choose_spec, l_call i1 (h := 5) (by decide) ?_⟩) (fun y y' N1 G1 F1 kc ks P1 i1 i2 => ⟨1, rfl, i1.e33.1, i1.e33.2.choose, i1.e33.2.choose_spec, l_call i1 (h := 5) (by decide) ?_⟩))
      · exact c_add hM h8 hY.1 (fun _ v1 a3 o1 o2 o3 o4 => ⟨o1, fun G2 j1 j2 => ⟨0, rfl, go _ _ _ _ _ _ P _ _ (1) (6) j1 ⟨o2, fun i hi => absurd hi (Nat.not_lt_zero i), fun _ => o3⟩ q_ro.one h15⟩⟩) (fun z => absurd y z) (fun z => absurd y z)
      · exact c_add hM h8 hY.1 (fun z => absurd z (by omega)) (fun _ _ v1 a3 r o1 o2 o3 o4 o5 => ⟨o1, fun G2 j1 j2 => ⟨r, rfl, go _ _ _ _ _ _ P1 _ _ (kc) (ks) j1 ⟨o2, fun i hi => absurd hi (Nat.not_lt_zero i), fun _ => o3⟩ i2 h15⟩⟩) (fun _ z => absurd (y'.symm.trans (hC.symm.trans z)) (by decide))
      · exact c_add hM h8 hY.1 (fun z => absurd z (by omega)) (fun _ z => absurd (y'.symm.trans (hC.symm.trans z)) (by decide)) (fun _ _ v1 a3 o1 o2 o3 o4 => ⟨o1, fun G2 j1 j2 => ⟨0, rfl, go _ _ _ _ _ _ P1 _ _ (kc) (ks) j1 ⟨o2, fun i hi => absurd hi (Nat.not_lt_zero i), fun _ => o3⟩ i2 h15⟩⟩)
    · refine kl_c2 ⟨hS.e0.1, hS.e0.2, a1, b1, lh_drop hS (fun y y' G1 s1 y'' i1 => ⟨0, rfl, i1.e0.1, i1.e0.2, a1, b1, i1.e33.1, i1.e33.2.choose, i1.e33.2.choose_spec, l_call i1 (h := 1) (by decide) ?_⟩) (fun y N1 G1 i1 => ⟨1, rfl, i1.e0.1, i1.e0.2, a1, b1, i1.e33.1, i1.e33.2.choose, i1.e33.2.choose_spec, l_call i1 (h := 1) (by decide) ?_⟩)⟩
      · exact c_drop hM h8 (fun z => absurd z (by omega)) (fun _ _ v1 a3 o1 o2 o3 o4 o5 => ⟨o1, fun G2 j1 j2 => ⟨rfl, go _ _ _ _ _ _ P _ _ (0) (0) j1 ⟨(by rw [o2]; exact hY.1), (by rw [o4]; exact hY.2.1), fun _ => (by omega)⟩ q_ro.zero h15⟩⟩)
      · exact c_drop hM h8 (fun _ v1 a3 o1 o2 o3 o4 o5 => ⟨o1, fun G2 j1 j2 => ⟨rfl, go _ _ _ _ _ _ P _ _ (1) (6) j1 ⟨(by rw [o2]; exact hY.1), (by rw [o4]; exact hY.2.1), fun _ => (by rw [o3]; exact h8)⟩ q_ro.one h15⟩⟩) (fun z z' => absurd y (by omega))
    · refine kl_c3 (L := L) (xs := xs) (lh_ask hS (fun m y N1 G1 F1 kc ks P1 g w i1 i2 i3 i4 i5 => ⟨0, rfl, i1.e33.1, i1.e33.2.choose, i1.e33.2.choose_spec, l_call i1 (h := 5) (by decide) ?_⟩) (fun y N1 G1 F1 kc ks P1 i1 i2 => ⟨1, rfl, i1.e33.1, i1.e33.2.choose, i1.e33.2.choose_spec, l_call i1 (h := 5) (by decide) ?_⟩))
      · exact c_ask2 hM hY.1 (fun z => absurd (hQ.symm.trans z) (by rw [y]; exact fun h => by cases h)) (fun m2 zq r v1 a3 o1 o2 o3 o4 o5 => ⟨o1, fun G2 j1 j2 => ⟨r, rfl, j1.e33.1, j1.e33.2.choose, j1.e33.2.choose_spec, l_call j1 (h := 0) (by decide) (c_thrown ⟨j1.2.2.1, fun G3 l1 l2 => ⟨_, rfl, fun _ => ⟨fun z => absurd rfl z, fun _ => ⟨(by have := l1.1.z.1; omega), g, l2.trans (j2.trans i3), fun _ => go _ _ _ _ _ _ P1 _ _ (kc) (ks) l1 ⟨o2, fun i hi => absurd hi (Nat.not_lt_zero i), fun _ => (by rw [o3]; exact h8)⟩ i2 h15, fun z => absurd (by rw [i4, show w = r from Int32.toInt_inj.mp (i5.trans ((congrArg (fun q : Nat => (q : Int)) (Option.some.inj (y.symm.trans (hQ.symm.trans zq)))).trans o5.symm))]; exact lg_same _) z⟩⟩, fun z => absurd (Eq.trans o4 (by decide)) z⟩⟩)⟩⟩)
      · exact c_ask2 hM hY.1 (fun _ v1 a3 o1 o2 o3 o4 => ⟨o1, fun G2 j1 j2 => ⟨0, rfl, j1.e33.1, j1.e33.2.choose, j1.e33.2.choose_spec, l_call j1 (h := 0) (by decide) (c_thrown ⟨j1.2.2.1, fun G3 l1 l2 => ⟨_, rfl, fun _ => ⟨fun _ => go _ _ _ _ _ _ P1 _ _ (kc) (ks) l1 ⟨o2, fun i hi => absurd hi (Nat.not_lt_zero i), fun _ => (by rw [o3]; exact h8)⟩ i2 h15, fun z => absurd z (by decide)⟩, fun z => absurd (Eq.trans o4 (by decide)) z⟩⟩)⟩⟩) (fun m2 z => absurd (hQ.symm.trans z) (by rw [y]; exact fun h => by cases h))
    · refine kl_c4 ⟨hS.e0.1, hS.e0.2, a1, b1, lh_run hS (fun w N1 G1 P1 kc ks i1 i2 => ⟨w, rfl, i1.e0.1, i1.e0.2, a1, b1, i1.e33.1, i1.e33.2.choose, i1.e33.2.choose_spec, l_call i1 (h := 8) (by decide) (c_run hS.2.2.1 (fun r v1 a3 o1 o2 o3 o4 => ⟨o1, fun G2 j1 _ => ⟨r, rfl, ?_⟩⟩))⟩)⟩
      exact go _ _ _ _ _ _ P1 _ _ kc ks j1 (hY.keep o2 o3 o4) i2 h15
    · refine kl_c5 ⟨hS.e0.1, hS.e0.2, a1, b1, hS.e0.1, hS.e0.2, a2, b2, lh_letter hS (fun w N1 G1 P1 kc ks i1 i2 => ⟨w, rfl, i1.e0.1, i1.e0.2, a1, b1, i1.e0.1, i1.e0.2, a2, b2, i1.e33.1, i1.e33.2.choose, i1.e33.2.choose_spec, l_call i1 (h := 3) (by decide) (c_letter hS.2.2.1 (fun r v1 a3 o => ⟨o.1, fun G2 j1 _ => ⟨r, rfl, ?_⟩⟩))⟩)⟩
      exact go _ _ _ _ _ _ P1 _ _ kc ks j1 (kO.Y hY o) i2 h15
    · refine kl_c6 ⟨hS.e0.1, hS.e0.2, a1, b1, lh_sleeping hS (fun w N1 G1 P1 kc ks i1 i2 => ⟨w, rfl, i1.e0.1, i1.e0.2, a1, b1, i1.e33.1, i1.e33.2.choose, i1.e33.2.choose_spec, l_call i1 (h := 1) (by decide) (c_sleeping hS.2.2.1 (fun r v1 a3 o => ⟨o.1, fun G2 j1 _ => ⟨r, rfl, ?_⟩⟩))⟩)⟩
      exact go _ _ _ _ _ _ P1 _ _ kc ks j1 (kO.Y hY o) i2 h15
    · refine kl_c7 ⟨hS.e0.1, hS.e0.2, a1, b1, hS.e5.1, hS.e5.2.choose, hS.e5.2.choose_spec, (j_Count hS.1 (fun w => ⟨w, rfl, hS.e0.1, hS.e0.2, a1, b1, hS.e33.1, hS.e33.2.choose, hS.e33.2.choose_spec, l_call hS (h := 1) (by decide) (c_count hS.2.2.1 (fun r v1 a3 o => ⟨o.1, fun G2 j1 _ => ⟨r, rfl, ?_⟩⟩))⟩)).dep (by decide)⟩
      exact go _ _ _ _ _ _ P _ _ 0 0 j1 (kO.Y hY o) q_ro.zero h15
end LL
/-- THE LAW holds at every script -/
theorem s_all : s_Runs := by
  intro L xs hL
  have hS : l_S L xs 65 (s_G0 L xs) s_F0 (fun _ => 0) 0 0 16 s_v0 s_a0 := ⟨s_cI0 L xs, s_ref0 L xs, s_mI0, ⟨_, rfl⟩, rfl⟩
  have hY : l_Y True (fun _ => 0) 0 0 s_v0 s_a0 := ⟨rfl, fun _ _ => rfl, fun _ => rfl⟩
  have h : s_wp 520 sM_law 0 [(0, .ref 0)] [] (s_h0 L xs) 0 0 (fun r _ dc ds => r = .inl (some (.int 1)) ∧ dc ≤ 601024 ∧ ds ≤ 7293034) := by
    refine s_ctor L xs ?_
    rw [← s_cH0 L xs]
    refine (l_loop hL 512 0 65 (s_G0 L xs) s_F0 (fun _ => 0) 0 0 16 s_v0 s_a0 hS hY (by decide) (by decide) (by show (L : Int) < 0 + 3 * 512 + 3; omega)) 10 60 146541 _ (fun r N1 G1 kc ks q => ?_)
    obtain ⟨q1, q2, q3⟩ := q
    exact ⟨q1, by omega, by omega⟩
  obtain ⟨⟨w, hs1, dc, ds⟩, ⟨n, hn⟩, h1, h2, h3⟩ := h
  dsimp only at h1 h2 h3
  subst h1
  exact ⟨n, 520, hs1, dc, ds, by decide, by omega, by omega, hn⟩
