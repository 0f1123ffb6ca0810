/-! THE GRAMMAR OF A TERM as a run over the text: w: a TERM is wanted; st: how many ARGUMENTS stand in each open bracket. And readTerm's loop by it -/
def gC (T : Nat → Int32) (n p : Nat) : Int := if p < n then (T p).toInt else 0
def gT (T : Nat → Int32) (n : Nat) : Nat → Bool → Nat → List Nat → Option Nat
  | 0, _, _, _ => none
  | k + 1, true, p, st =>
    if 97 ≤ gC T n p ∧ gC T n p ≤ 122 then (if gC T n (p + 1) = 40 then (if st.length = 4 then none else gT T n k true (p + 2) (1 :: st)) else gT T n k false (p + 1) st)
    else if 65 ≤ gC T n p ∧ gC T n p ≤ 90 then gT T n k false (p + 1) st
    else if 48 ≤ gC T n p ∧ gC T n p ≤ 57 then (if 48 ≤ gC T n (p + 1) ∧ gC T n (p + 1) ≤ 57 then gT T n k false (p + 2) st else gT T n k false (p + 1) st)
    else none
  | _ + 1, false, p, [] => some p
  | k + 1, false, p, m :: r => if gC T n p = 44 ∧ m < 3 then gT T n k true (p + 1) ((m + 1) :: r) else if gC T n p = 41 then gT T n k false (p + 1) r else none
theorem gC_lk {v : Nat → Int32} {a : Nat → Nat → Int32} {n p : Nat} (h7 : (v 7).toInt = (n : Int)) (h10 : (v 10).toInt = (p : Int)) : (m_lk v a).toInt = gC (a 0) n p := by
  unfold m_lk gC
  have hq : (v 10).toNatClampNeg = p := by
    show (v 10).toInt.toNat = p
    omega
  by_cases h : p < n
  · rw [if_pos (by omega), if_pos h, hq]
  · rw [if_neg (by omega), if_neg h]
    decide
theorem gC_lt {T : Nat → Int32} {n p : Nat} (h : gC T n p ≠ 0) : p < n := by
  unfold gC at h
  by_cases q : p < n
  · exact q
  · rw [if_neg q] at h
    exact absurd rfl h
/-- what readTerm may change: the place, and the counts of ARGUMENTS -/
def rtO (v : Nat → Int32) (a : Nat → Nat → Int32) (n p : Nat) (v1 : Nat → Int32) (a1 : Nat → Nat → Int32) : Prop := (∀ j, j ≠ 10 → v1 j = v j) ∧ (∀ j, j ≠ 4 → a1 j = a j) ∧ (v1 10).toInt = (p : Int) ∧ p ≤ n
def rtM (f : Nat → Int32) (st : List Nat) : Prop := ∀ (i m : Nat), st[i]? = some m → (f (st.length + 1 - i)).toInt = (m : Int)
theorem rtO_step {v v2 v1 : Nat → Int32} {a a2 a1 : Nat → Nat → Int32} {n p : Nat} (hv : ∀ j, j ≠ 10 → v2 j = v j) (ha : ∀ j, j ≠ 4 → a2 j = a j) (h : rtO v2 a2 n p v1 a1) : rtO v a n p v1 a1 :=
  ⟨fun j hj => (h.1 j hj).trans (hv j hj), fun j hj => (h.2.1 j hj).trans (ha j hj), h.2.2⟩
theorem va_ne {α : Type} {f : Nat → α} {k j : Nat} {x : α} (h : j ≠ k) : va_up f k x j = f j := if_neg h
theorem rtM_tail {f : Nat → Int32} {m : Nat} {r : List Nat} (h : rtM f (m :: r)) : rtM f r := by
  intro i q hq
  have hi : i < r.length := (List.getElem?_eq_some_iff.mp hq).1
  have := h (i + 1) q (by rw [List.getElem?_cons_succ]; exact hq)
  rw [List.length_cons] at this
  rw [show r.length + 1 - i = r.length + 1 + 1 - (i + 1) from by omega]
  exact this
theorem rtM_push {f : Nat → Int32} {st : List Nat} {j : Nat} {x : Int32} {m : Nat} (h : rtM f st) (hj : j = st.length + 2) (hx : x.toInt = (m : Int)) : rtM (upd f j x) (m :: st) := by
  intro i q hq
  rw [List.length_cons]
  cases i with
  | zero =>
    cases hq
    show (if st.length + 1 + 1 - 0 = j then x else _).toInt = _
    rw [if_pos (by omega)]
    exact hx
  | succ i =>
    rw [List.getElem?_cons_succ] at hq
    have hi : i < st.length := (List.getElem?_eq_some_iff.mp hq).1
    show (if st.length + 1 + 1 - (i + 1) = j then x else f (st.length + 1 + 1 - (i + 1))).toInt = _
    rw [if_neg (by omega), show st.length + 1 + 1 - (i + 1) = st.length + 1 - i from by omega]
    exact h i q hq
set_option maxHeartbeats 4000000 in
theorem m_rt0 {A : Nat → sx_C} {B : List sx_C} {d dc ds : Nat} {P : Option Value ⊕ Nat → sx_H → Nat → Nat → Prop} {n : Nat} (hn8 : n ≤ 48) : ∀ (k p : Nat) (w : Bool) (st : List Nat) (v : Nat → Int32) (a : Nat → Nat → Int32) (dd : Int32), n - p < k → p ≤ n → (v 7).toInt = (n : Int) → (v 10).toInt = (p : Int) → dd.toInt = (st.length : Int) + 1 → st.length ≤ 4 → rtM (a 4) st →
    (∀ p1 v1 a1, gT (a 0) n k w p st = some p1 → rtO v a n p1 v1 a1 → P (.inl (some (.int 1))) (mH A B v1 a1) dc ds) → (∀ p1 v1 a1, gT (a 0) n k w p st = none → rtO v a n p1 v1 a1 → P (.inl (some (.int 0))) (mH A B v1 a1) dc ds) →
    s_wp (d + 2) sM_116 4 [(0, .ref 33), (1, .int 0), (2, .int dd), (3, .int (if w = true then 1 else 0))] [] (mH A B v a) dc ds P := by
  intro k
  induction k with
  | zero => intro p w st v a dd h; omega
  | succ k ih =>
    intro p w st v a dd hk hp h7 h10 hd h4 hM hT hF
    have hc1 := gC_lk (a := a) h7 h10
    have e1 : (v 10 + 1).toInt = (v 10).toInt + 1 := i32_succ (by omega) (by omega)
    have hc2 := gC_lk (v := va_up v 10 (v 10 + 1)) (a := a) (n := n) (p := p + 1) h7 (e1.trans (by rw [h10]; omega))
    have hv1 : ∀ j, j ≠ 10 → va_up v 10 (v 10 + 1) j = v j := fun j hj => va_ne hj
    have hv2 : ∀ j, j ≠ 10 → va_up v 10 (v 10 + 1 + 1) j = v j := fun j hj => va_ne hj
    have e2 : (v 10 + 1 + 1).toInt = (p : Int) + 2 := by
      rw [i32_succ (by omega) (by omega), e1, h10]
      omega
    cases w with
    | true =>
      show s_wp (d + 2) sM_116 4 [(0, .ref 33), (1, .int 0), (2, .int dd), (3, .int 1)] [] (mH A B v a) dc ds P
      refine m_rtW0 (by omega) (by omega) (by omega) (by omega) (by omega) (fun q1 q2 q3 => ?_) (fun q1 q2 q3 q4 => ?_) (fun q1 q2 q3 q4 => ?_) (fun q1 q2 q3 => ?_) (fun q1 q2 => ?_) (fun q1 q2 q3 => ?_) (fun q1 q2 q3 q4 => ?_)
      · rw [hc1] at q1 q2 q3
        refine hF p v a ?_ ⟨fun _ _ => rfl, fun _ _ => rfl, h10, hp⟩
        unfold gT
        rw [if_neg (by omega), if_neg (by omega), if_neg (by omega)]
      · rw [hc1] at q1 q2
        rw [hc2] at q3
        have hl := gC_lt (T := a 0) (n := n) (p := p + 1) (by omega)
        refine hF (p + 1) _ a ?_ ⟨hv1, fun _ _ => rfl, e1.trans (by rw [h10]; omega), by omega⟩
        unfold gT
        rw [if_pos ⟨q1, q2⟩, if_pos q3, if_pos (by omega)]
      · rw [hc1] at q1 q2
        rw [hc2] at q3
        have hl := gC_lt (T := a 0) (n := n) (p := p + 1) (by omega)
        have hg : gT (a 0) n (k + 1) true p st = gT (a 0) n k true (p + 2) (1 :: st) := by
          conv => lhs; unfold gT
          rw [if_pos ⟨q1, q2⟩, if_pos q3, if_neg (by omega)]
        have e3 : (dd + 1).toInt = dd.toInt + 1 := i32_succ (by omega) (by omega)
        have ha : ∀ j, j ≠ 4 → va_up a 4 (upd (a 4) (dd + 1).toNatClampNeg 1) j = a j := fun j hj => va_ne hj
        refine ih (p + 2) true (1 :: st) (va_up v 10 (v 10 + 1 + 1)) (va_up a 4 (upd (a 4) (dd + 1).toNatClampNeg 1)) (dd + 1) (by omega) (by omega) h7 (e2.trans (by omega)) (by rw [e3, List.length_cons]; omega) (by rw [List.length_cons]; omega) ?_ (fun p1 v1 a1 g o => hT p1 v1 a1 (hg.trans g) (rtO_step hv2 ha o)) (fun p1 v1 a1 g o => hF p1 v1 a1 (hg.trans g) (rtO_step hv2 ha o))
        refine rtM_push hM ?_ (by decide)
        show (dd + 1).toInt.toNat = st.length + 2
        omega
      · rw [hc1] at q1 q2
        rw [hc2] at q3
        have hl := gC_lt (T := a 0) (n := n) (p := p) (by omega)
        have hg : gT (a 0) n (k + 1) true p st = gT (a 0) n k false (p + 1) st := by
          conv => lhs; unfold gT
          rw [if_pos ⟨q1, q2⟩, if_neg q3]
        exact ih (p + 1) false st _ a dd (by omega) (by omega) h7 (e1.trans (by rw [h10]; omega)) hd h4 hM (fun p1 v1 a1 g o => hT p1 v1 a1 (hg.trans g) (rtO_step hv1 (fun _ _ => rfl) o)) (fun p1 v1 a1 g o => hF p1 v1 a1 (hg.trans g) (rtO_step hv1 (fun _ _ => rfl) o))
      · rw [hc1] at q1 q2
        have hl := gC_lt (T := a 0) (n := n) (p := p) (by omega)
        have hg : gT (a 0) n (k + 1) true p st = gT (a 0) n k false (p + 1) st := by
          conv => lhs; unfold gT
          rw [if_neg (by omega), if_pos ⟨q1, q2⟩]
        exact ih (p + 1) false st _ a dd (by omega) (by omega) h7 (e1.trans (by rw [h10]; omega)) hd h4 hM (fun p1 v1 a1 g o => hT p1 v1 a1 (hg.trans g) (rtO_step hv1 (fun _ _ => rfl) o)) (fun p1 v1 a1 g o => hF p1 v1 a1 (hg.trans g) (rtO_step hv1 (fun _ _ => rfl) o))
      · rw [hc1] at q1 q2
        rw [hc2] at q3
        have hl := gC_lt (T := a 0) (n := n) (p := p) (by omega)
        have hg : gT (a 0) n (k + 1) true p st = gT (a 0) n k false (p + 1) st := by
          conv => lhs; unfold gT
          rw [if_neg (by omega), if_neg (by omega), if_pos ⟨q1, q2⟩, if_neg (by omega)]
        exact ih (p + 1) false st _ a dd (by omega) (by omega) h7 (e1.trans (by rw [h10]; omega)) hd h4 hM (fun p1 v1 a1 g o => hT p1 v1 a1 (hg.trans g) (rtO_step hv1 (fun _ _ => rfl) o)) (fun p1 v1 a1 g o => hF p1 v1 a1 (hg.trans g) (rtO_step hv1 (fun _ _ => rfl) o))
      · rw [hc1] at q1 q2
        rw [hc2] at q3 q4
        have hl := gC_lt (T := a 0) (n := n) (p := p + 1) (by omega)
        have hg : gT (a 0) n (k + 1) true p st = gT (a 0) n k false (p + 2) st := by
          conv => lhs; unfold gT
          rw [if_neg (by omega), if_neg (by omega), if_pos ⟨q1, q2⟩, if_pos ⟨q3, q4⟩]
        exact ih (p + 2) false st _ a dd (by omega) (by omega) h7 (e2.trans (by omega)) hd h4 hM (fun p1 v1 a1 g o => hT p1 v1 a1 (hg.trans g) (rtO_step hv2 (fun _ _ => rfl) o)) (fun p1 v1 a1 g o => hF p1 v1 a1 (hg.trans g) (rtO_step hv2 (fun _ _ => rfl) o))
    | false =>
      show s_wp (d + 2) sM_116 4 [(0, .ref 33), (1, .int 0), (2, .int dd), (3, .int 0)] [] (mH A B v a) dc ds P
      have hdn : dd.toNatClampNeg = st.length + 1 := by
        show dd.toInt.toNat = st.length + 1
        omega
      refine m_rtC (by omega) (by omega) (by omega) (by omega) (by omega) (fun q1 => ?_) (fun q1 q2 q3 => ?_) (fun q1 q2 q3 => ?_) (fun q1 q2 q3 => ?_)
      · have hs : st = [] := List.eq_nil_of_length_eq_zero (by omega)
        subst hs
        refine w_mv (pc1 := 5) (st1 := [.int 0]) rfl rfl rfl ?_
        refine w_mv (pc1 := 234) (st1 := []) rfl rfl rfl ?_
        refine w_mv (pc1 := 235) (st1 := [.int 1]) rfl rfl rfl ?_
        exact sx_wp.stop rfl rfl rfl (hT p v a (by unfold gT; rfl) ⟨fun _ _ => rfl, fun _ _ => rfl, h10, hp⟩)
      · cases st with
        | nil => exact absurd hd (by rw [List.length_nil]; omega)
        | cons m r =>
          rw [List.length_cons] at hdn hd h4
          have hm := hM 0 m rfl
          rw [List.length_cons, Nat.sub_zero, ← hdn] at hm
          rw [hc1] at q2
          rw [hm] at q3
          have hl := gC_lt (T := a 0) (n := n) (p := p) (by omega)
          have hg : gT (a 0) n (k + 1) false p (m :: r) = gT (a 0) n k true (p + 1) ((m + 1) :: r) := by
            conv => lhs; unfold gT
            rw [if_pos ⟨q2, by omega⟩]
          have ha : ∀ j, j ≠ 4 → va_up a 4 (upd (a 4) dd.toNatClampNeg (a 4 dd.toNatClampNeg + 1)) j = a j := fun j hj => va_ne hj
          refine ih (p + 1) true ((m + 1) :: r) _ (va_up a 4 (upd (a 4) dd.toNatClampNeg (a 4 dd.toNatClampNeg + 1))) dd (by omega) (by omega) h7 (e1.trans (by rw [h10]; omega)) (by rw [List.length_cons]; omega) (by rw [List.length_cons]; omega) ?_ (fun p1 v1 a1 g o => hT p1 v1 a1 (hg.trans g) (rtO_step hv1 ha o)) (fun p1 v1 a1 g o => hF p1 v1 a1 (hg.trans g) (rtO_step hv1 ha o))
          exact rtM_push (rtM_tail hM) (by omega) (by rw [i32_succ (by omega) (by omega), hm]; omega)
      · cases st with
        | nil => exact absurd hd (by rw [List.length_nil]; omega)
        | cons m r =>
          rw [List.length_cons] at hdn hd h4
          have hm := hM 0 m rfl
          rw [List.length_cons, Nat.sub_zero, ← hdn] at hm
          rw [hc1] at q2 q3
          rw [hm] at q3
          have hl := gC_lt (T := a 0) (n := n) (p := p) (by omega)
          have hg : gT (a 0) n (k + 1) false p (m :: r) = gT (a 0) n k false (p + 1) r := by
            conv => lhs; unfold gT
            rw [if_neg (by omega), if_pos q2]
          have o1 : n - (p + 1) < k := by omega
          have o2 : p + 1 ≤ n := by omega
          have o3 : dd.toInt - 1 = (r.length : Int) + 1 := by omega
          have o4 : r.length ≤ 4 := by omega
          have o5 : -1000000 ≤ dd.toInt := by omega
          have o6 : dd.toInt ≤ 1000000 := by omega
          have o7 : (v 10).toInt + 1 = ((p + 1 : Nat) : Int) := by omega
          exact ih (p + 1) false r _ a (dd + (-1)) o1 o2 h7 (e1.trans o7) ((i32_pred o5 o6).trans o3) o4 (rtM_tail hM) (fun p1 v1 a1 g o => hT p1 v1 a1 (hg.trans g) (rtO_step hv1 (fun _ _ => rfl) o)) (fun p1 v1 a1 g o => hF p1 v1 a1 (hg.trans g) (rtO_step hv1 (fun _ _ => rfl) o))
      · cases st with
        | nil => exact absurd hd (by rw [List.length_nil]; omega)
        | cons m r =>
          rw [List.length_cons] at hdn hd h4
          have hm := hM 0 m rfl
          rw [List.length_cons, Nat.sub_zero, ← hdn] at hm
          rw [hc1] at q2 q3
          rw [hm] at q3
          refine hF p v a ?_ ⟨fun _ _ => rfl, fun _ _ => rfl, h10, hp⟩
          unfold gT
          rw [if_neg (by omega), if_neg q2]
set_option maxHeartbeats 4000000 in
theorem m_rt1 {A : Nat → sx_C} {B : List sx_C} {d dc ds : Nat} {P : Option Value ⊕ Nat → sx_H → Nat → Nat → Prop} {n : Nat} (hn8 : n ≤ 48) : ∀ (k p : Nat) (w : Bool) (st : List Nat) (v : Nat → Int32) (a : Nat → Nat → Int32) (dd : Int32), n - p < k → p ≤ n → (v 7).toInt = (n : Int) → (v 10).toInt = (p : Int) → dd.toInt = (st.length : Int) + 1 → st.length ≤ 4 → (w = true → st ≠ []) → rtM (a 4) st →
    (∀ p1 v1 a1, gT (a 0) n k w p st = some p1 → rtO v a n p1 v1 a1 → P (.inl (some (.int 1))) (mH A B v1 a1) dc ds) → (∀ p1 v1 a1, gT (a 0) n k w p st = none → rtO v a n p1 v1 a1 → P (.inl (some (.int 0))) (mH A B v1 a1) dc ds) →
    s_wp (d + 2) sM_116 4 [(0, .ref 33), (1, .int 1), (2, .int dd), (3, .int (if w = true then 1 else 0))] [] (mH A B v a) dc ds P := by
  intro k
  induction k with
  | zero => intro p w st v a dd h; omega
  | succ k ih =>
    intro p w st v a dd hk hp h7 h10 hd h4 hne hM hT hF
    have hc1 := gC_lk (a := a) h7 h10
    have e1 : (v 10 + 1).toInt = (v 10).toInt + 1 := i32_succ (by omega) (by omega)
    have hc2 := gC_lk (v := va_up v 10 (v 10 + 1)) (a := a) (n := n) (p := p + 1) h7 (e1.trans (by rw [h10]; omega))
    have hv1 : ∀ j, j ≠ 10 → va_up v 10 (v 10 + 1) j = v j := fun j hj => va_ne hj
    have hv2 : ∀ j, j ≠ 10 → va_up v 10 (v 10 + 1 + 1) j = v j := fun j hj => va_ne hj
    have e2 : (v 10 + 1 + 1).toInt = (p : Int) + 2 := by
      rw [i32_succ (by omega) (by omega), e1, h10]
      omega
    cases w with
    | true =>
      show s_wp (d + 2) sM_116 4 [(0, .ref 33), (1, .int 1), (2, .int dd), (3, .int 1)] [] (mH A B v a) dc ds P
      have hl0 : st.length ≠ 0 := fun e => hne rfl (List.eq_nil_of_length_eq_zero e)
      refine m_rtW1 (by omega) (by omega) (by omega) (by omega) (by omega) (fun q1 q2 q3 => ?_) (fun q1 q2 => absurd q2 (by omega)) (fun q1 q2 q3 q4 => ?_) (fun q1 q2 q3 q4 => ?_) (fun q1 q2 q3 => ?_) (fun _ q1 q2 => ?_) (fun _ q1 q2 q3 => ?_) (fun _ q1 q2 q3 q4 => ?_)
      · rw [hc1] at q1 q2 q3
        refine hF p v a ?_ ⟨fun _ _ => rfl, fun _ _ => rfl, h10, hp⟩
        unfold gT
        rw [if_neg (by omega), if_neg (by omega), if_neg (by omega)]
      · rw [hc1] at q1 q2
        rw [hc2] at q3
        have hl := gC_lt (T := a 0) (n := n) (p := p + 1) (by omega)
        refine hF (p + 1) _ a ?_ ⟨hv1, fun _ _ => rfl, e1.trans (by rw [h10]; omega), by omega⟩
        unfold gT
        rw [if_pos ⟨q1, q2⟩, if_pos q3, if_pos (by omega)]
      · rw [hc1] at q1 q2
        rw [hc2] at q3
        have hl := gC_lt (T := a 0) (n := n) (p := p + 1) (by omega)
        have hg : gT (a 0) n (k + 1) true p st = gT (a 0) n k true (p + 2) (1 :: st) := by
          conv => lhs; unfold gT
          rw [if_pos ⟨q1, q2⟩, if_pos q3, if_neg (by omega)]
        have e3 : (dd + 1).toInt = dd.toInt + 1 := i32_succ (by omega) (by omega)
        have ha : ∀ j, j ≠ 4 → va_up a 4 (upd (a 4) (dd + 1).toNatClampNeg 1) j = a j := fun j hj => va_ne hj
        refine ih (p + 2) true (1 :: st) (va_up v 10 (v 10 + 1 + 1)) (va_up a 4 (upd (a 4) (dd + 1).toNatClampNeg 1)) (dd + 1) (by omega) (by omega) h7 (e2.trans (by omega)) (by rw [e3, List.length_cons]; omega) (by rw [List.length_cons]; omega) (fun _ => List.cons_ne_nil _ _) ?_ (fun p1 v1 a1 g o => hT p1 v1 a1 (hg.trans g) (rtO_step hv2 ha o)) (fun p1 v1 a1 g o => hF p1 v1 a1 (hg.trans g) (rtO_step hv2 ha o))
        refine rtM_push hM ?_ (by decide)
        show (dd + 1).toInt.toNat = st.length + 2
        omega
      · rw [hc1] at q1 q2
        rw [hc2] at q3
        have hl := gC_lt (T := a 0) (n := n) (p := p) (by omega)
        have hg : gT (a 0) n (k + 1) true p st = gT (a 0) n k false (p + 1) st := by
          conv => lhs; unfold gT
          rw [if_pos ⟨q1, q2⟩, if_neg q3]
        exact ih (p + 1) false st _ a dd (by omega) (by omega) h7 (e1.trans (by rw [h10]; omega)) hd h4 (fun e => by cases e) hM (fun p1 v1 a1 g o => hT p1 v1 a1 (hg.trans g) (rtO_step hv1 (fun _ _ => rfl) o)) (fun p1 v1 a1 g o => hF p1 v1 a1 (hg.trans g) (rtO_step hv1 (fun _ _ => rfl) o))
      · rw [hc1] at q1 q2
        have hl := gC_lt (T := a 0) (n := n) (p := p) (by omega)
        have hg : gT (a 0) n (k + 1) true p st = gT (a 0) n k false (p + 1) st := by
          conv => lhs; unfold gT
          rw [if_neg (by omega), if_pos ⟨q1, q2⟩]
        exact ih (p + 1) false st _ a dd (by omega) (by omega) h7 (e1.trans (by rw [h10]; omega)) hd h4 (fun e => by cases e) hM (fun p1 v1 a1 g o => hT p1 v1 a1 (hg.trans g) (rtO_step hv1 (fun _ _ => rfl) o)) (fun p1 v1 a1 g o => hF p1 v1 a1 (hg.trans g) (rtO_step hv1 (fun _ _ => rfl) o))
      · rw [hc1] at q1 q2
        rw [hc2] at q3
        have hl := gC_lt (T := a 0) (n := n) (p := p) (by omega)
        have hg : gT (a 0) n (k + 1) true p st = gT (a 0) n k false (p + 1) st := by
          conv => lhs; unfold gT
          rw [if_neg (by omega), if_neg (by omega), if_pos ⟨q1, q2⟩, if_neg (by omega)]
        exact ih (p + 1) false st _ a dd (by omega) (by omega) h7 (e1.trans (by rw [h10]; omega)) hd h4 (fun e => by cases e) hM (fun p1 v1 a1 g o => hT p1 v1 a1 (hg.trans g) (rtO_step hv1 (fun _ _ => rfl) o)) (fun p1 v1 a1 g o => hF p1 v1 a1 (hg.trans g) (rtO_step hv1 (fun _ _ => rfl) o))
      · rw [hc1] at q1 q2
        rw [hc2] at q3 q4
        have hl := gC_lt (T := a 0) (n := n) (p := p + 1) (by omega)
        have hg : gT (a 0) n (k + 1) true p st = gT (a 0) n k false (p + 2) st := by
          conv => lhs; unfold gT
          rw [if_neg (by omega), if_neg (by omega), if_pos ⟨q1, q2⟩, if_pos ⟨q3, q4⟩]
        exact ih (p + 2) false st _ a dd (by omega) (by omega) h7 (e2.trans (by omega)) hd h4 (fun e => by cases e) hM (fun p1 v1 a1 g o => hT p1 v1 a1 (hg.trans g) (rtO_step hv2 (fun _ _ => rfl) o)) (fun p1 v1 a1 g o => hF p1 v1 a1 (hg.trans g) (rtO_step hv2 (fun _ _ => rfl) o))
    | false =>
      show s_wp (d + 2) sM_116 4 [(0, .ref 33), (1, .int 1), (2, .int dd), (3, .int 0)] [] (mH A B v a) dc ds P
      have hdn : dd.toNatClampNeg = st.length + 1 := by
        show dd.toInt.toNat = st.length + 1
        omega
      refine m_rtC (by omega) (by omega) (by omega) (by omega) (by omega) (fun q1 => ?_) (fun q1 q2 q3 => ?_) (fun q1 q2 q3 => ?_) (fun q1 q2 q3 => ?_)
      · have hs : st = [] := List.eq_nil_of_length_eq_zero (by omega)
        subst hs
        refine w_mv (pc1 := 5) (st1 := [.int 0]) rfl rfl rfl ?_
        refine w_mv (pc1 := 234) (st1 := []) rfl rfl rfl ?_
        refine w_mv (pc1 := 235) (st1 := [.int 1]) rfl rfl rfl ?_
        exact sx_wp.stop rfl rfl rfl (hT p v a (by unfold gT; rfl) ⟨fun _ _ => rfl, fun _ _ => rfl, h10, hp⟩)
      · cases st with
        | nil => exact absurd hd (by rw [List.length_nil]; omega)
        | cons m r =>
          rw [List.length_cons] at hdn hd h4
          have hm := hM 0 m rfl
          rw [List.length_cons, Nat.sub_zero, ← hdn] at hm
          rw [hc1] at q2
          rw [hm] at q3
          have hl := gC_lt (T := a 0) (n := n) (p := p) (by omega)
          have hg : gT (a 0) n (k + 1) false p (m :: r) = gT (a 0) n k true (p + 1) ((m + 1) :: r) := by
            conv => lhs; unfold gT
            rw [if_pos ⟨q2, by omega⟩]
          have ha : ∀ j, j ≠ 4 → va_up a 4 (upd (a 4) dd.toNatClampNeg (a 4 dd.toNatClampNeg + 1)) j = a j := fun j hj => va_ne hj
          refine ih (p + 1) true ((m + 1) :: r) _ (va_up a 4 (upd (a 4) dd.toNatClampNeg (a 4 dd.toNatClampNeg + 1))) dd (by omega) (by omega) h7 (e1.trans (by rw [h10]; omega)) (by rw [List.length_cons]; omega) (by rw [List.length_cons]; omega) (fun _ => List.cons_ne_nil _ _) ?_ (fun p1 v1 a1 g o => hT p1 v1 a1 (hg.trans g) (rtO_step hv1 ha o)) (fun p1 v1 a1 g o => hF p1 v1 a1 (hg.trans g) (rtO_step hv1 ha o))
          exact rtM_push (rtM_tail hM) (by omega) (by rw [i32_succ (by omega) (by omega), hm]; omega)
      · cases st with
        | nil => exact absurd hd (by rw [List.length_nil]; omega)
        | cons m r =>
          rw [List.length_cons] at hdn hd h4
          have hm := hM 0 m rfl
          rw [List.length_cons, Nat.sub_zero, ← hdn] at hm
          rw [hc1] at q2 q3
          rw [hm] at q3
          have hl := gC_lt (T := a 0) (n := n) (p := p) (by omega)
          have hg : gT (a 0) n (k + 1) false p (m :: r) = gT (a 0) n k false (p + 1) r := by
            conv => lhs; unfold gT
            rw [if_neg (by omega), if_pos q2]
          have o1 : n - (p + 1) < k := by omega
          have o2 : p + 1 ≤ n := by omega
          have o3 : dd.toInt - 1 = (r.length : Int) + 1 := by omega
          have o4 : r.length ≤ 4 := by omega
          have o5 : -1000000 ≤ dd.toInt := by omega
          have o6 : dd.toInt ≤ 1000000 := by omega
          have o7 : (v 10).toInt + 1 = ((p + 1 : Nat) : Int) := by omega
          exact ih (p + 1) false r _ a (dd + (-1)) o1 o2 h7 (e1.trans o7) ((i32_pred o5 o6).trans o3) o4 (fun e => by cases e) (rtM_tail hM) (fun p1 v1 a1 g o => hT p1 v1 a1 (hg.trans g) (rtO_step hv1 (fun _ _ => rfl) o)) (fun p1 v1 a1 g o => hF p1 v1 a1 (hg.trans g) (rtO_step hv1 (fun _ _ => rfl) o))
      · cases st with
        | nil => exact absurd hd (by rw [List.length_nil]; omega)
        | cons m r =>
          rw [List.length_cons] at hdn hd h4
          have hm := hM 0 m rfl
          rw [List.length_cons, Nat.sub_zero, ← hdn] at hm
          rw [hc1] at q2 q3
          rw [hm] at q3
          refine hF p v a ?_ ⟨fun _ _ => rfl, fun _ _ => rfl, h10, hp⟩
          unfold gT
          rw [if_neg (by omega), if_neg q2]
/-- a TERM from p on; a CALL from p on -/
def gTm (T : Nat → Int32) (n p : Nat) : Option Nat := gT T n (n - p + 1) true p []
def gTc (T : Nat → Int32) (n p : Nat) : Option Nat := if 97 ≤ gC T n p ∧ gC T n p ≤ 122 then gTm T n p else none
theorem m_readTerm0 {A : Nat → sx_C} {B : List sx_C} {d dc ds : Nat} {P : Option Value ⊕ Nat → sx_H → Nat → Nat → Prop} {v : Nat → Int32} {a : Nat → Nat → Int32} {n p : Nat} (hn8 : n ≤ 48) (hp : p ≤ n) (h7 : (v 7).toInt = (n : Int)) (h10 : (v 10).toInt = (p : Int)) (hT : ∀ p1 v1 a1, gTm (a 0) n p = some p1 → rtO v a n p1 v1 a1 → P (.inl (some (.int 1))) (mH A B v1 a1) dc ds) (hF : ∀ p1 v1 a1, gTm (a 0) n p = none → rtO v a n p1 v1 a1 → P (.inl (some (.int 0))) (mH A B v1 a1) dc ds) :
    s_wp (d + 2) sM_116 0 [(0, .ref 33), (1, .int 0)] [] (mH A B v a) dc ds P := by
  refine w_mv (pc1 := 1) (st1 := [.int 1]) rfl rfl rfl ?_
  refine w_mv (pc1 := 2) (lv1 := [(2, .int 1), (0, .ref 33), (1, .int 0)]) (st1 := []) rfl rfl rfl ?_
  refine w_mv (pc1 := 3) (st1 := [.int 1]) rfl rfl rfl ?_
  refine w_mv (pc1 := 4) (lv1 := [(3, .int 1), (2, .int 1), (0, .ref 33), (1, .int 0)]) (st1 := []) rfl rfl rfl ?_
  refine w_wk (l1 := [(0, .ref 33), (1, .int 0), (2, .int 1), (3, .int 1)]) rfl ⟨rfl, rfl, rfl, rfl, trivial⟩ ?_
  exact m_rt0 hn8 (n - p + 1) p true [] v a 1 (by omega) hp h7 h10 (by decide) (by decide) (fun i m h => by cases h) hT hF
set_option maxHeartbeats 4000000 in
theorem m_readTerm1 {A : Nat → sx_C} {B : List sx_C} {d dc ds : Nat} {P : Option Value ⊕ Nat → sx_H → Nat → Nat → Prop} {v : Nat → Int32} {a : Nat → Nat → Int32} {n p : Nat} (hn8 : n ≤ 48) (hp : p ≤ n) (h7 : (v 7).toInt = (n : Int)) (h10 : (v 10).toInt = (p : Int)) (hT : ∀ p1 v1 a1, gTc (a 0) n p = some p1 → rtO v a n p1 v1 a1 → P (.inl (some (.int 1))) (mH A B v1 a1) dc ds) (hF : ∀ p1 v1 a1, gTc (a 0) n p = none → rtO v a n p1 v1 a1 → P (.inl (some (.int 0))) (mH A B v1 a1) dc ds) :
    s_wp (d + 2) sM_116 0 [(0, .ref 33), (1, .int 1)] [] (mH A B v a) dc ds P := by
  refine w_mv (pc1 := 1) (st1 := [.int 1]) rfl rfl rfl ?_
  refine w_mv (pc1 := 2) (lv1 := [(2, .int 1), (0, .ref 33), (1, .int 1)]) (st1 := []) rfl rfl rfl ?_
  refine w_mv (pc1 := 3) (st1 := [.int 1]) rfl rfl rfl ?_
  refine w_mv (pc1 := 4) (lv1 := [(3, .int 1), (2, .int 1), (0, .ref 33), (1, .int 1)]) (st1 := []) rfl rfl rfl ?_
  refine w_wk (l1 := [(0, .ref 33), (1, .int 1), (2, .int 1), (3, .int 1)]) rfl ⟨rfl, rfl, rfl, rfl, trivial⟩ ?_
  have hc1 := gC_lk (a := a) h7 h10
  have e1 : (v 10 + 1).toInt = (v 10).toInt + 1 := i32_succ (by omega) (by omega)
  have hc2 := gC_lk (v := va_up v 10 (v 10 + 1)) (a := a) (n := n) (p := p + 1) h7 (e1.trans (by rw [h10]; omega))
  have hv1 : ∀ j, j ≠ 10 → va_up v 10 (v 10 + 1) j = v j := fun j hj => va_ne hj
  have hv2 : ∀ j, j ≠ 10 → va_up v 10 (v 10 + 1 + 1) j = v j := fun j hj => va_ne hj
  have e2 : (v 10 + 1 + 1).toInt = (p : Int) + 2 := by
    rw [i32_succ (by omega) (by omega), e1, h10]
    omega
  have z1 : (1 : Int32).toInt = 1 := by decide
  have z2 : ((1 : Int32) + 1).toInt = 2 := by decide
  have z3 : ((1 : Int32) + 1).toNatClampNeg = 2 := by decide
  have o1 : 0 ≤ (v 10).toInt := by omega
  have o2 : (v 7).toInt ≤ 48 := by omega
  have o3 : (v 10).toInt ≤ 48 := by omega
  refine m_rtW1 o1 o2 (by decide) (by decide) o3 (fun q1 q2 q3 => ?_) (fun q1 _ => ?_) (fun q1 q2 q3 q4 => absurd q4 (by decide)) (fun q1 q2 q3 q4 => ?_) (fun q1 q2 q3 => ?_) (fun q => absurd z1 q) (fun q => absurd z1 q) (fun q => absurd z1 q)
  · rw [hc1] at q1
    exact hF p v a (if_neg (by omega)) ⟨fun _ _ => rfl, fun _ _ => rfl, h10, hp⟩
  · rw [hc1] at q1
    exact hF p v a (if_neg (by omega)) ⟨fun _ _ => rfl, fun _ _ => rfl, h10, hp⟩
  · rw [hc1] at q1 q2
    rw [hc2] at q3
    have hl := gC_lt (T := a 0) (n := n) (p := p + 1) (by omega)
    have hg : gTc (a 0) n p = gT (a 0) n (n - p) true (p + 2) [1] := by
      unfold gTc gTm
      rw [if_pos ⟨q1, q2⟩]
      conv => lhs; unfold gT
      rw [if_pos ⟨q1, q2⟩, if_pos q3, if_neg (by decide)]
    have ha : ∀ j, j ≠ 4 → va_up a 4 (upd (a 4) ((1 : Int32) + 1).toNatClampNeg 1) j = a j := fun j hj => va_ne hj
    refine m_rt1 hn8 (n - p) (p + 2) true [1] (va_up v 10 (v 10 + 1 + 1)) (va_up a 4 (upd (a 4) ((1 : Int32) + 1).toNatClampNeg 1)) (1 + 1) (by omega) (by omega) h7 (e2.trans (by omega)) z2 (by decide) (fun _ => List.cons_ne_nil _ _) ?_ (fun p1 v1 a1 g o => hT p1 v1 a1 (hg.trans g) (rtO_step hv2 ha o)) (fun p1 v1 a1 g o => hF p1 v1 a1 (hg.trans g) (rtO_step hv2 ha o))
    exact rtM_push (st := []) (fun i m h => by cases h) z3 z1
  · rw [hc1] at q1 q2
    rw [hc2] at q3
    have hl := gC_lt (T := a 0) (n := n) (p := p) (by omega)
    have hg : gTc (a 0) n p = gT (a 0) n (n - p) false (p + 1) [] := by
      unfold gTc gTm
      rw [if_pos ⟨q1, q2⟩]
      conv => lhs; unfold gT
      rw [if_pos ⟨q1, q2⟩, if_neg q3]
    exact m_rt1 hn8 (n - p) (p + 1) false [] _ a 1 (by omega) (by omega) h7 (e1.trans (by rw [h10]; omega)) z1 (by decide) (fun e => by cases e) (fun i m h => by cases h) (fun p1 v1 a1 g o => hT p1 v1 a1 (hg.trans g) (rtO_step hv1 (fun _ _ => rfl) o)) (fun p1 v1 a1 g o => hF p1 v1 a1 (hg.trans g) (rtO_step hv1 (fun _ _ => rfl) o))
