/-! THE REFERENCE'S READER by the grammar: a QUESTION's GOALS, a CLAUSE -/
def b2 (b : Bool) : Int32 := if b = true then 1 else 0
def rS (v : Nat → Int32) (a : Nat → Nat → Int32) (T : Nat → Int32) (n p : Nat) : Prop := (v 7).toInt = (n : Int) ∧ (v 10).toInt = (p : Int) ∧ p ≤ n ∧ n ≤ 48 ∧ a 0 = T
def rO (v : Nat → Int32) (a : Nat → Nat → Int32) (v1 : Nat → Int32) (a1 : Nat → Nat → Int32) : Prop := (∀ j, j ≠ 10 → v1 j = v j) ∧ (∀ j, j ≠ 4 → a1 j = a j)
section RD
variable {v v1 v2 : Nat → Int32} {a a1 a2 : Nat → Nat → Int32} {T : Nat → Int32} {n p q : Nat} {K : Int32 → (Nat → Int32) → (Nat → Nat → Int32) → Prop}
theorem rO.rfl' : rO v a v a := ⟨fun _ _ => rfl, fun _ _ => rfl⟩
theorem rO.trans (h : rO v a v1 a1) (g : rO v1 a1 v2 a2) : rO v a v2 a2 := ⟨fun j hj => (g.1 j hj).trans (h.1 j hj), fun j hj => (g.2 j hj).trans (h.2 j hj)⟩
theorem rO.up {x : Int32} : rO v a (va_up v 10 x) a := ⟨fun _ hj => va_ne hj, fun _ _ => rfl⟩
theorem rS.lk (h : rS v a T n p) : (m_lk v a).toInt = gC T n p := by
  have := gC_lk (a := a) h.1 h.2.1
  rw [h.2.2.2.2] at this
  exact this
theorem rS.b0 (h : rS v a T n p) : 0 ≤ (v 10).toInt := by
  have := h.2.1
  omega
theorem rS.b8 (h : rS v a T n p) : (v 7).toInt ≤ 48 := by
  have := h.1
  have := h.2.2.2.1
  omega
theorem rS.nx (h : rS v a T n p) (hp : p < n) : rS (va_up v 10 (v 10 + 1)) a T n (p + 1) := by
  refine ⟨h.1, ?_, hp, h.2.2.2.1, h.2.2.2.2⟩
  show (v 10 + 1).toInt = _
  have h1 := h.2.1
  have h2 := h.2.2.2.1
  rw [i32_succ (by omega) (by omega), h1]
  rfl
theorem rS.nx2 (h : rS v a T n p) (hp : p + 1 < n) : rS (va_up v 10 (v 10 + 1 + 1)) a T n (p + 2) := by
  refine ⟨h.1, ?_, hp, h.2.2.2.1, h.2.2.2.2⟩
  show (v 10 + 1 + 1).toInt = _
  have h1 := h.2.1
  have h2 := h.2.2.2.1
  have e : (v 10 + 1).toInt = (v 10).toInt + 1 := i32_succ (by omega) (by omega)
  rw [i32_succ (by omega) (by omega), e, h1]
  omega
theorem rS.of (h : rS v a T n p) (o : rtO v a n q v1 a1) : rS v1 a1 T n q ∧ rO v a v1 a1 :=
  ⟨⟨by rw [o.1 7 (by decide)]; exact h.1, o.2.2.1, o.2.2.2, h.2.2.2.1, by rw [o.2.1 0 (by decide)]; exact h.2.2.2.2⟩, o.1, o.2.1⟩
theorem c_rt0 (h : rS v a T n p) (hT : ∀ q v1 a1, gTm T n p = some q → rS v1 a1 T n q → rO v a v1 a1 → K 1 v1 a1) (hF : ∀ v1 a1, gTm T n p = none → rO v a v1 a1 → K 0 v1 a1) : mT 2 sM_116 0 [(0, .ref 33), (1, .int 0)] [] v a K := by
  intro A B d dc ds P hP
  have e := h.2.2.2.2
  exact m_readTerm0 h.2.2.2.1 h.2.2.1 h.1 h.2.1 (fun p1 v1 a1 g o => hP _ _ _ (hT p1 v1 a1 (by rw [← e]; exact g) (h.of o).1 (h.of o).2)) (fun p1 v1 a1 g o => hP _ _ _ (hF v1 a1 (by rw [← e]; exact g) (h.of o).2))
theorem c_rt1 (h : rS v a T n p) (hT : ∀ q v1 a1, gTc T n p = some q → rS v1 a1 T n q → rO v a v1 a1 → K 1 v1 a1) (hF : ∀ v1 a1, gTc T n p = none → rO v a v1 a1 → K 0 v1 a1) : mT 2 sM_116 0 [(0, .ref 33), (1, .int 1)] [] v a K := by
  intro A B d dc ds P hP
  have e := h.2.2.2.2
  exact m_readTerm1 h.2.2.2.1 h.2.2.1 h.1 h.2.1 (fun p1 v1 a1 g o => hP _ _ _ (hT p1 v1 a1 (by rw [← e]; exact g) (h.of o).1 (h.of o).2)) (fun p1 v1 a1 g o => hP _ _ _ (hF v1 a1 (by rw [← e]; exact g) (h.of o).2))
theorem gT_ge : ∀ (k : Nat) (w : Bool) (p : Nat) (st : List Nat) (q : Nat), gT T n k w p st = some q → p ≤ q := by
  intro k
  induction k with
  | zero => intro w p st q h; cases w <;> cases h
  | succ k ih =>
    intro w p st q h
    cases w with
    | true =>
      unfold gT at h
      repeat' split at h
      all_goals first | (cases h; done) | (have := ih _ _ _ _ h; omega)
    | false =>
      cases st with
      | nil =>
        unfold gT at h
        cases h
        exact Nat.le_refl _
      | cons m r =>
        unfold gT at h
        repeat' split at h
        all_goals first | (cases h; done) | (have := ih _ _ _ _ h; omega)
theorem gTm_ge (h : gTm T n p = some q) : p ≤ q := gT_ge _ _ _ _ _ h
end RD
/-- one GOAL from p on -/
def gG1 (T : Nat → Int32) (n p : Nat) : Option Nat := (gTm T n p).bind fun q =>
  if (65 ≤ gC T n p ∧ gC T n p ≤ 90) ∧ gC T n q = 35 then ((gTm T n (q + 1)).bind fun q2 => if gC T n q2 = 43 ∨ gC T n q2 = 45 ∨ gC T n q2 = 42 then gTm T n (q2 + 1) else none)
  else if gC T n q = 61 then gTm T n (q + 1)
  else if 97 ≤ gC T n p ∧ gC T n p ≤ 122 then (if gC T n q = 94 then (if 48 ≤ gC T n (q + 1) ∧ gC T n (q + 1) ≤ 51 then some (q + 2) else none) else some q)
  else none
/-- GOALS from p on to the end, how many -/
def gGs (T : Nat → Int32) (n : Nat) : Nat → Nat → Option Nat
  | 0, _ => none
  | k + 1, p => (gG1 T n p).bind fun q => if gC T n q = 44 then (gGs T n k (q + 1)).map (fun x => x + 1) else if q = n then some 1 else none
def gQ (T : Nat → Int32) (n p : Nat) : Option Nat := gGs T n (n - p + 1) p
theorem gGs_none {T : Nat → Int32} {n k p : Nat} (h : gG1 T n p = none) : (gGs T n (k + 1) p).isSome = false := by
  unfold gGs
  rw [h]
  rfl
theorem gGs_some {T : Nat → Int32} {n k p q : Nat} (h : gG1 T n p = some q) : (gGs T n (k + 1) p).isSome = if gC T n q = 44 then (gGs T n k (q + 1)).isSome else decide (q = n) := by
  conv => lhs; unfold gGs
  rw [h, Option.bind_some]
  by_cases c : gC T n q = 44
  · rw [if_pos c, if_pos c]
    cases gGs T n k (q + 1) <;> rfl
  · rw [if_neg c, if_neg c]
    by_cases e : q = n
    · rw [if_pos e, decide_eq_true e]
      rfl
    · rw [if_neg e, decide_eq_false e]
      rfl
set_option maxHeartbeats 2000000 in
theorem c_rgs {T : Nat → Int32} {n : Nat} : ∀ (k p : Nat) (v : Nat → Int32) (a : Nat → Nat → Int32) (K : Int32 → (Nat → Int32) → (Nat → Nat → Int32) → Prop), n - p < k → rS v a T n p → (∀ v1 a1, rO v a v1 a1 → K (b2 (gGs T n k p).isSome) v1 a1) → mT 3 sM_119 0 [(0, .ref 33)] [] v a K := by
  intro k
  induction k with
  | zero => intro p v a K h; omega
  | succ k ih =>
    intro p v0 a0 K hk hS0 hK0
    have hz : ((0 : Int32).toInt = 0) := by decide
    have ho : ¬ ((1 : Int32).toInt = 0) := by decide
    -- the end of one GOAL
    have k156 : ∀ (q : Nat) (v : Nat → Int32) (a : Nat → Nat → Int32), p ≤ q → gG1 T n p = some q → rS v a T n q → rO v0 a0 v a → mT 3 sM_119 156 [(0, .ref 33)] [] v a K := by
      intro q v a hpq hg hS hO
      have e := gGs_some (k := k) hg
      have hl := hS.lk
      refine r_119_156 ⟨hS.b0, hS.b8, fun h => ?_, fun h => ⟨fun h2 => ?_, fun h2 => ?_⟩⟩
      · rw [hl] at h
        have hq := gC_lt (T := T) (n := n) (p := q) (by omega)
        rw [if_pos h] at e
        refine ih (q + 1) _ a K (by omega) (hS.nx hq) (fun v1 a1 o => ?_)
        have := hK0 v1 a1 (hO.trans (rO.up.trans o))
        rw [e] at this
        exact this
      · rw [hl] at h
        have := hK0 v a hO
        rw [e, if_neg h, decide_eq_false (by have := hS.1; have := hS.2.1; omega)] at this
        exact this
      · rw [hl] at h
        have := hK0 v a hO
        rw [e, if_neg h, decide_eq_true (by have := hS.1; have := hS.2.1; omega)] at this
        exact this
    have hN : ∀ (v : Nat → Int32) (a : Nat → Nat → Int32), gG1 T n p = none → rO v0 a0 v a → K 0 v a := by
      intro v a hg hO
      have := hK0 v a hO
      rw [gGs_none hg] at this
      exact this
    have k86 : ∀ (q q2 : Nat) (v : Nat → Int32) (a : Nat → Nat → Int32), p ≤ q2 → gG1 T n p = gTm T n (q2 + 1) → rS v a T n (q2 + 1) → rO v0 a0 v a → mT 3 sM_119 86 [(0, .ref 33)] [] v a K := by
      intro q q2 v a hp2 hg hS hO
      refine r_119_86 (c_rt0 hS (fun q3 v1 a1 g S1 o => ⟨fun _ => ?_, fun h => absurd h ho⟩) (fun v1 a1 g o => ⟨fun h => absurd hz h, fun _ => ?_⟩))
      · exact k156 q3 v1 a1 (by have := gTm_ge g; omega) (hg.trans g) S1 (hO.trans o)
      · exact hN v1 a1 (hg.trans g) (hO.trans o)
    have k96 : ∀ (q : Nat) (lo : Int32) (v : Nat → Int32) (a : Nat → Nat → Int32), p ≤ q → gTm T n p = some q → ¬ ((65 ≤ gC T n p ∧ gC T n p ≤ 90) ∧ gC T n q = 35) → (lo.toInt = 0 ↔ ¬ (97 ≤ gC T n p ∧ gC T n p ≤ 122)) → rS v a T n q → rO v0 a0 v a → mT 3 sM_119 96 [(0, .ref 33), (1, .int lo)] [] v a K := by
      intro q lo v a hpq ht hno hlo hS hO
      have hl := hS.lk
      have e1 : gG1 T n p = if gC T n q = 61 then gTm T n (q + 1)
          else if 97 ≤ gC T n p ∧ gC T n p ≤ 122 then (if gC T n q = 94 then (if 48 ≤ gC T n (q + 1) ∧ gC T n (q + 1) ≤ 51 then some (q + 2) else none) else some q) else none := by
        unfold gG1
        rw [ht, Option.bind_some, if_neg hno]
      refine r_119_96 ⟨hS.b0, hS.b8, fun h => ?_, fun h => ⟨fun h2 => ⟨hS.b0, hS.b8, fun h3 => ?_, fun h3 => ?_⟩, fun h2 => ?_⟩⟩
      · rw [hl] at h
        have hq := gC_lt (T := T) (n := n) (p := q) (by omega)
        rw [if_pos h] at e1
        refine c_rt0 (hS.nx hq) (fun q3 v1 a1 g S1 o => ⟨fun _ => ?_, fun h => absurd h ho⟩) (fun v1 a1 g o => ⟨fun h => absurd hz h, fun _ => ?_⟩)
        · exact k156 q3 v1 a1 (by have := gTm_ge g; omega) (e1.trans g) S1 (hO.trans (rO.up.trans o))
        · exact hN v1 a1 (e1.trans g) (hO.trans (rO.up.trans o))
      · rw [hl] at h h3
        have hq := gC_lt (T := T) (n := n) (p := q) (by omega)
        have hlow : 97 ≤ gC T n p ∧ gC T n p ≤ 122 := Classical.not_not.mp (fun z => h2 (hlo.mpr z))
        have S1 := hS.nx hq
        have hl1 := S1.lk
        rw [if_neg h, if_pos hlow, if_pos h3] at e1
        refine ⟨S1.b0, hS.b8, fun g1 g2 => ?_, fun g => ?_⟩
        · rw [hl1] at g1 g2
          rw [if_pos ⟨g1, g2⟩] at e1
          have hq2 := gC_lt (T := T) (n := n) (p := q + 1) (by omega)
          exact k156 (q + 2) _ a (by omega) e1 (hS.nx2 hq2) (hO.trans rO.up)
        · rw [hl1] at g
          rw [if_neg (by omega)] at e1
          exact hN _ a e1 (hO.trans rO.up)
      · rw [hl] at h h3
        have hlow : 97 ≤ gC T n p ∧ gC T n p ≤ 122 := Classical.not_not.mp (fun z => h2 (hlo.mpr z))
        rw [if_neg h, if_pos hlow, if_neg h3] at e1
        exact k156 q v a hpq e1 hS hO
      · rw [hl] at h
        rw [if_neg h, if_neg (hlo.mp h2)] at e1
        exact hN v a e1 hO
    have k34 : ∀ (q : Nat) (lo hi : Int32) (v : Nat → Int32) (a : Nat → Nat → Int32), p ≤ q → gTm T n p = some q → (lo.toInt = 0 ↔ ¬ (97 ≤ gC T n p ∧ gC T n p ≤ 122)) → (hi.toInt = 0 ↔ ¬ (65 ≤ gC T n p ∧ gC T n p ≤ 90)) → rS v a T n q → rO v0 a0 v a → mT 3 sM_119 34 [(0, .ref 33), (1, .int lo), (2, .int hi)] [] v a K := by
      intro q lo hi v a hpq ht hlo hhi hS hO
      have hl := hS.lk
      refine r_119_34 ⟨fun h => k96 q lo v a hpq ht (fun z => hhi.mp h z.1) hlo hS hO, fun h => ⟨hS.b0, hS.b8, fun h2 => ?_, fun h2 => ?_⟩⟩
      · rw [hl] at h2
        have hq := gC_lt (T := T) (n := n) (p := q) (by omega)
        have hup : 65 ≤ gC T n p ∧ gC T n p ≤ 90 := Classical.not_not.mp (fun z => h (hhi.mpr z))
        have e1 : gG1 T n p = ((gTm T n (q + 1)).bind fun q2 => if gC T n q2 = 43 ∨ gC T n q2 = 45 ∨ gC T n q2 = 42 then gTm T n (q2 + 1) else none) := by
          unfold gG1
          rw [ht, Option.bind_some, if_pos ⟨hup, h2⟩]
        refine c_rt0 (hS.nx hq) (fun q2 v1 a1 g S1 o => ⟨fun _ => ?_, fun h => absurd h ho⟩) (fun v1 a1 g o => ⟨fun h => absurd hz h, fun _ => ?_⟩)
        · have hg2 := gTm_ge g
          have hl1 := S1.lk
          have hO1 := hO.trans (rO.up.trans o)
          rw [g, Option.bind_some] at e1
          have go : (gC T n q2 = 43 ∨ gC T n q2 = 45 ∨ gC T n q2 = 42) → mT 3 sM_119 86 [(0, .ref 33)] [] (va_up v1 10 (v1 10 + 1)) a1 K := by
            intro c
            have hq2 := gC_lt (T := T) (n := n) (p := q2) (by omega)
            rw [if_pos c] at e1
            exact k86 q q2 _ a1 (by omega) e1 (S1.nx hq2) (hO1.trans rO.up)
          refine ⟨S1.b0, S1.b8, fun c => go (Or.inl (by rw [← hl1]; exact c)), fun c1 => ⟨S1.b0, S1.b8, fun c => go (Or.inr (Or.inl (by rw [← hl1]; exact c))), fun c2 => ⟨S1.b0, S1.b8, fun c => go (Or.inr (Or.inr (by rw [← hl1]; exact c))), fun c3 => ?_⟩⟩⟩
          rw [hl1] at c1 c2 c3
          rw [if_neg (by omega)] at e1
          exact hN v1 a1 e1 hO1
        · rw [g] at e1
          exact hN v1 a1 e1 (hO.trans (rO.up.trans o))
      · rw [hl] at h2
        exact k96 q lo v a hpq ht (fun z => h2 z.2) hlo hS hO
    have kt : ∀ lo hi : Int32, (lo.toInt = 0 ↔ ¬ (97 ≤ gC T n p ∧ gC T n p ≤ 122)) → (hi.toInt = 0 ↔ ¬ (65 ≤ gC T n p ∧ gC T n p ≤ 90)) → mT 2 sM_116 0 [(0, .ref 33), (1, .int 0)] [] v0 a0 (fun r5 v5 a5 => ((r5.toInt ≠ 0 → mT 3 sM_119 34 [(0, .ref 33), (1, .int lo), (2, .int hi)] [] v5 a5 K) ∧ (r5.toInt = 0 → K 0 v5 a5))) := by
      intro lo hi hlo hhi
      refine c_rt0 hS0 (fun q v1 a1 g S1 o => ⟨fun _ => k34 q lo hi v1 a1 (gTm_ge g) g hlo hhi S1 o, fun h => absurd h ho⟩) (fun v1 a1 g o => ⟨fun h => absurd hz h, fun _ => ?_⟩)
      refine hN v1 a1 ?_ o
      unfold gG1
      rw [g]
      rfl
    have hl := hS0.lk
    refine r_119_0 ⟨hS0.b0, hS0.b8, fun h1 h2 => ⟨hS0.b0, hS0.b8, fun h3 h4 => kt 1 1 ?_ ?_, fun h3 => kt 1 0 ?_ ?_⟩, fun h1 => ⟨hS0.b0, hS0.b8, fun h3 h4 => kt 0 1 ?_ ?_, fun h3 => kt 0 0 ?_ ?_⟩⟩
    all_goals
      first
      | rw [hl] at h1 h2 h3 h4
      | rw [hl] at h1 h2 h3
      | rw [hl] at h1 h3 h4
      | rw [hl] at h1 h3
    · exact ⟨fun z => absurd z ho, fun z => absurd ⟨h1, h2⟩ z⟩
    · exact ⟨fun z => absurd z ho, fun z => absurd ⟨h3, h4⟩ z⟩
    · exact ⟨fun z => absurd z ho, fun z => absurd ⟨h1, h2⟩ z⟩
    · exact ⟨fun _ z => by omega, fun _ => hz⟩
    · exact ⟨fun _ z => by omega, fun _ => hz⟩
    · exact ⟨fun z => absurd z ho, fun z => absurd ⟨h3, h4⟩ z⟩
    · exact ⟨fun _ z => by omega, fun _ => hz⟩
    · exact ⟨fun _ z => by omega, fun _ => hz⟩
/-- GUARDS from p on: where they end -/
def gU (T : Nat → Int32) (n : Nat) : Nat → Nat → Option Nat
  | 0, _ => none
  | k + 1, p => (gTm T n p).bind fun q => if gC T n q = 60 ∨ gC T n q = 61 ∨ gC T n q = 126 then ((gTm T n (q + 1)).bind fun q2 => if gC T n q2 = 44 then gU T n k (q2 + 1) else some q2) else none
/-- what stands behind the head and the GUARDS -/
def gE (T : Nat → Int32) (n p : Nat) : Bool := if gC T n p = 124 then (gQ T n (p + 1)).isSome else decide (p = n)
def gCl (T : Nat → Int32) (n : Nat) : Bool := match gTc T n 0 with
  | none => false
  | some q => if gC T n q = 58 then (match gU T n (n - q + 1) (q + 1) with
    | none => false
    | some q2 => gE T n q2) else gE T n q
theorem c_rc77 {T : Nat → Int32} {n p : Nat} {v : Nat → Int32} {a : Nat → Nat → Int32} {K : Int32 → (Nat → Int32) → (Nat → Nat → Int32) → Prop} (hS : rS v a T n p) (hK : ∀ v1 a1, rO v a v1 a1 → K (b2 (gE T n p)) v1 a1) : mT 4 sM_115 77 [(0, .ref 33)] [] v a K := by
  have hl := hS.lk
  refine r_115_77 ⟨hS.b0, hS.b8, fun h => ?_, fun h => ⟨fun h2 => ?_, fun h2 => ?_⟩⟩
  · rw [hl] at h
    have hq := gC_lt (T := T) (n := n) (p := p) (by omega)
    refine c_rgs (n - (p + 1) + 1) (p + 1) _ a _ (by omega) (hS.nx hq) (fun v1 a1 o => ⟨?_, ?_⟩)
    · unfold b2
      split
      · exact Or.inr rfl
      · exact Or.inl rfl
    · have := hK v1 a1 (rO.up.trans o)
      unfold gE at this
      rw [if_pos h] at this
      exact this
  · rw [hl] at h
    have := hK v a rO.rfl'
    unfold gE at this
    rw [if_neg h, decide_eq_false (by have := hS.1; have := hS.2.1; omega)] at this
    exact this
  · rw [hl] at h
    have := hK v a rO.rfl'
    unfold gE at this
    rw [if_neg h, decide_eq_true (by have := hS.1; have := hS.2.1; omega)] at this
    exact this
theorem c_rc19 {T : Nat → Int32} {n : Nat} : ∀ (k p : Nat) (v : Nat → Int32) (a : Nat → Nat → Int32) (K : Int32 → (Nat → Int32) → (Nat → Nat → Int32) → Prop), n - p < k → rS v a T n p → (∀ q v1 a1, gU T n k p = some q → rO v a v1 a1 → K (b2 (gE T n q)) v1 a1) → (∀ v1 a1, gU T n k p = none → rO v a v1 a1 → K 0 v1 a1) → mT 4 sM_115 19 [(0, .ref 33)] [] v a K := by
  intro k
  induction k with
  | zero => intro p v a K h; omega
  | succ k ih =>
    intro p v a K hk hS hT hF
    have hz : ((0 : Int32).toInt = 0) := by decide
    have ho : ¬ ((1 : Int32).toInt = 0) := by decide
    refine r_115_19 (c_rt0 hS (fun q v1 a1 g S1 o => ⟨fun _ => ?_, fun h => absurd h ho⟩) (fun v1 a1 g o => ⟨fun h => absurd hz h, fun _ => hF v1 a1 (by unfold gU; rw [g]; rfl) o⟩))
    have hpq := gTm_ge g
    have hl := S1.lk
    have e1 : gU T n (k + 1) p = if gC T n q = 60 ∨ gC T n q = 61 ∨ gC T n q = 126 then ((gTm T n (q + 1)).bind fun q2 => if gC T n q2 = 44 then gU T n k (q2 + 1) else some q2) else none := by
      conv => lhs; unfold gU
      rw [g, Option.bind_some]
    have go : (gC T n q = 60 ∨ gC T n q = 61 ∨ gC T n q = 126) → mT 4 sM_115 58 [(0, .ref 33)] [] (va_up v1 10 (v1 10 + 1)) a1 K := by
      intro c
      have hq := gC_lt (T := T) (n := n) (p := q) (by omega)
      rw [if_pos c] at e1
      refine r_115_58 (c_rt0 (S1.nx hq) (fun q2 v2 a2 g2 S2 o2 => ⟨fun _ => ?_, fun h => absurd h ho⟩) (fun v2 a2 g2 o2 => ⟨fun h => absurd hz h, fun _ => hF v2 a2 (by rw [e1, g2]; rfl) (o.trans (rO.up.trans o2))⟩))
      have hl2 := S2.lk
      have hg2 := gTm_ge g2
      have oo := o.trans (rO.up.trans o2)
      rw [g2, Option.bind_some] at e1
      refine ⟨S2.b0, S2.b8, fun h => ?_, fun h => ?_⟩
      · rw [hl2] at h
        have hq2 := gC_lt (T := T) (n := n) (p := q2) (by omega)
        rw [if_pos h] at e1
        exact ih (q2 + 1) _ a2 K (by omega) (S2.nx hq2) (fun q3 v3 a3 g3 o3 => hT q3 v3 a3 (e1.trans g3) (oo.trans (rO.up.trans o3))) (fun v3 a3 g3 o3 => hF v3 a3 (e1.trans g3) (oo.trans (rO.up.trans o3)))
      · rw [hl2] at h
        rw [if_neg h] at e1
        exact c_rc77 S2 (fun v3 a3 o3 => hT q2 v3 a3 e1 (oo.trans o3))
    refine ⟨S1.b0, S1.b8, fun c => go (Or.inl (by rw [← hl]; exact c)), fun c1 => ⟨S1.b0, S1.b8, fun c => go (Or.inr (Or.inl (by rw [← hl]; exact c))), fun c2 => ⟨S1.b0, S1.b8, fun c => go (Or.inr (Or.inr (by rw [← hl]; exact c))), fun c3 => ?_⟩⟩⟩
    rw [hl] at c1 c2 c3
    rw [if_neg (by omega)] at e1
    exact hF v1 a1 e1 o
/-- readClause answers as the grammar -/
theorem c_readClause {T : Nat → Int32} {n : Nat} {v : Nat → Int32} {a : Nat → Nat → Int32} {K : Int32 → (Nat → Int32) → (Nat → Nat → Int32) → Prop} (hS : rS v a T n 0) (hK : ∀ v1 a1, rO v a v1 a1 → K (b2 (gCl T n)) v1 a1) : mT 4 sM_115 0 [(0, .ref 33)] [] v a K := by
  have hz : ((0 : Int32).toInt = 0) := by decide
  have ho : ¬ ((1 : Int32).toInt = 0) := by decide
  have eC : gCl T n = match gTc T n 0 with
    | none => false
    | some q => if gC T n q = 58 then (match gU T n (n - q + 1) (q + 1) with
      | none => false
      | some q2 => gE T n q2) else gE T n q := rfl
  refine r_115_0 (c_rt1 hS (fun q v1 a1 g S1 o => ⟨fun _ => ⟨S1.b0, S1.b8, fun h => ?_, fun h => ?_⟩, fun h => absurd h ho⟩) (fun v1 a1 g o => ⟨fun h => absurd hz h, fun _ => ?_⟩))
  · rw [S1.lk] at h
    have hq := gC_lt (T := T) (n := n) (p := q) (by omega)
    rw [g] at eC
    dsimp only at eC
    rw [if_pos h] at eC
    refine c_rc19 (n - q + 1) (q + 1) _ a1 K (by omega) (S1.nx hq) (fun q2 v2 a2 g2 o2 => ?_) (fun v2 a2 g2 o2 => ?_)
    · rw [g2] at eC
      have := hK v2 a2 (o.trans (rO.up.trans o2))
      rw [eC] at this
      exact this
    · rw [g2] at eC
      have := hK v2 a2 (o.trans (rO.up.trans o2))
      rw [eC] at this
      exact this
  · rw [S1.lk] at h
    rw [g] at eC
    dsimp only at eC
    rw [if_neg h] at eC
    refine c_rc77 S1 (fun v2 a2 o2 => ?_)
    have := hK v2 a2 (o.trans o2)
    rw [eC] at this
    exact this
  · rw [g] at eC
    have := hK v1 a1 o
    rw [eC] at this
    exact this
/-- readGoals answers as the grammar -/
theorem c_readGoals {T : Nat → Int32} {n : Nat} {v : Nat → Int32} {a : Nat → Nat → Int32} {K : Int32 → (Nat → Int32) → (Nat → Nat → Int32) → Prop} (hS : rS v a T n 0) (hK : ∀ v1 a1, rO v a v1 a1 → K (b2 (gQ T n 0).isSome) v1 a1) : mT 3 sM_119 0 [(0, .ref 33)] [] v a K :=
  c_rgs (n - 0 + 1) 0 v a K (by omega) hS hK
