/-! THE TWO GRAMMARS are one: what the class reads (pT, pIs, pC, pQ) is what the reference reads (gTm, gU, gGs, gCl, gQ) -/
section GE
variable {T T' : Nat → Int32} {n : Nat}
theorem gT_fuel : ∀ (k k' : Nat) (w : Bool) (p : Nat) (st : List Nat), n - p < k → n - p < k' → gT T n k w p st = gT T n k' w p st := by
  intro k
  induction k with
  | zero => intro k' w p st h; omega
  | succ k ih =>
    intro k' w p st h h'
    cases k' with
    | zero => omega
    | succ k' =>
      cases w with
      | true =>
        by_cases c : gC T n p = 0
        · unfold gT
          rw [if_neg (by omega), if_neg (by omega), if_neg (by omega), if_neg (by omega), if_neg (by omega), if_neg (by omega)]
        · have hp := gC_lt c
          unfold gT
          rw [ih k' true (p + 2) (1 :: st) (by omega) (by omega), ih k' false (p + 1) st (by omega) (by omega), ih k' false (p + 2) st (by omega) (by omega)]
      | false =>
        cases st with
        | nil => rfl
        | cons m r =>
          by_cases c : gC T n p = 0
          · unfold gT
            rw [if_neg (by omega), if_neg (by omega), if_neg (by omega), if_neg (by omega)]
          · have hp := gC_lt c
            unfold gT
            rw [ih k' true (p + 1) ((m + 1) :: r) (by omega) (by omega), ih k' false (p + 1) r (by omega) (by omega)]
def gF (T : Nat → Int32) (n : Nat) (w : Bool) (p : Nat) (st : List Nat) : Option Nat := gT T n (n - p + 1) w p st
theorem gF_t (p : Nat) (st : List Nat) : gF T n true p st = if 97 ≤ gC T n p ∧ gC T n p ≤ 122 then (if gC T n (p + 1) = 40 then (if st.length = 4 then none else gF T n true (p + 2) (1 :: st)) else gF T n false (p + 1) st)
    else if 65 ≤ gC T n p ∧ gC T n p ≤ 90 then gF T n false (p + 1) st
    else if 48 ≤ gC T n p ∧ gC T n p ≤ 57 then (if 48 ≤ gC T n (p + 1) ∧ gC T n (p + 1) ≤ 57 then gF T n false (p + 2) st else gF T n false (p + 1) st)
    else none := by
  by_cases c : gC T n p = 0
  · rw [if_neg (by omega), if_neg (by omega), if_neg (by omega)]
    unfold gF gT
    rw [if_neg (by omega), if_neg (by omega), if_neg (by omega)]
  · have hp := gC_lt c
    conv => lhs; unfold gF gT
    rw [gT_fuel (n - p) (n - (p + 2) + 1) true (p + 2) (1 :: st) (by omega) (by omega), gT_fuel (n - p) (n - (p + 1) + 1) false (p + 1) st (by omega) (by omega), gT_fuel (n - p) (n - (p + 2) + 1) false (p + 2) st (by omega) (by omega)]
    rfl
theorem gF_n (p : Nat) : gF T n false p [] = some p := rfl
theorem gF_f (p m : Nat) (r : List Nat) : gF T n false p (m :: r) = if gC T n p = 44 ∧ m < 3 then gF T n true (p + 1) ((m + 1) :: r) else if gC T n p = 41 then gF T n false (p + 1) r else none := by
  by_cases c : gC T n p = 0
  · rw [if_neg (by omega), if_neg (by omega)]
    unfold gF gT
    rw [if_neg (by omega), if_neg (by omega)]
  · have hp := gC_lt c
    conv => lhs; unfold gF gT
    rw [gT_fuel (n - p) (n - (p + 1) + 1) true (p + 1) ((m + 1) :: r) (by omega) (by omega), gT_fuel (n - p) (n - (p + 1) + 1) false (p + 1) r (by omega) (by omega)]
    rfl
theorem gF_args {r : Nat} (hA : ∀ p st, st.length + r = 4 → gF T n true p st = (pT T n (r + 1) p).bind (fun q => gF T n false q st)) : ∀ (k p m : Nat) (st : List Nat), m + k = 3 → st.length + 1 + r = 4 → gF T n true p (m :: st) = (pP T n (r + 1) (k + 1) p).bind (fun q => gF T n false q st) := by
  intro k
  induction k with
  | zero =>
    intro p m st hm hs
    rw [hA p (m :: st) (by rw [List.length_cons]; omega)]
    unfold pP
    cases pT T n (r + 1) p with
    | none => rfl
    | some q =>
      show gF T n false q (m :: st) = Option.bind (if gC T n q = 41 then some (q + 1) else if 0 ≠ 0 ∧ gC T n q = 44 then _ else none) _
      rw [gF_f, if_neg (by omega)]
      by_cases c : gC T n q = 41
      · rw [if_pos c, if_pos c]
        rfl
      · rw [if_neg c, if_neg c, if_neg (by omega)]
        rfl
  | succ k ih =>
    intro p m st hm hs
    rw [hA p (m :: st) (by rw [List.length_cons]; omega)]
    unfold pP
    cases pT T n (r + 1) p with
    | none => rfl
    | some q =>
      show gF T n false q (m :: st) = Option.bind (if gC T n q = 41 then some (q + 1) else if k + 1 ≠ 0 ∧ gC T n q = 44 then pP T n (r + 1) (k + 1) (q + 1) else none) _
      rw [gF_f]
      by_cases c : gC T n q = 41
      · rw [if_pos c, if_neg (by omega), if_pos c]
        rfl
      · rw [if_neg c, if_neg c]
        by_cases d : gC T n q = 44
        · rw [if_pos ⟨d, by omega⟩, if_pos ⟨by omega, d⟩]
          exact ih (q + 1) (m + 1) st (by omega) hs
        · rw [if_neg (fun z => d z.1), if_neg (fun z => d z.2)]
          rfl
theorem gF_pT : ∀ (r p : Nat) (st : List Nat), st.length + r = 4 → gF T n true p st = (pT T n (r + 1) p).bind (fun q => gF T n false q st) := by
  intro r
  induction r with
  | zero =>
    intro p st hs
    rw [gF_t, pT_P]
    by_cases c1 : 97 ≤ gC T n p ∧ gC T n p ≤ 122
    · have n1 : ¬ (65 ≤ gC T n p ∧ gC T n p ≤ 90) := by omega
      have n2 : ¬ (48 ≤ gC T n p ∧ gC T n p ≤ 57) := by omega
      have n3 : ¬ (1 ≤ 0 ∧ gC T n (p + 1) = 40) := by omega
      rw [if_pos c1, if_neg n1, if_neg n2, if_pos c1, if_neg n3]
      by_cases c2 : gC T n (p + 1) = 40
      · rw [if_pos c2, if_pos (by omega)]
        cases st with
        | nil => exact absurd hs (by decide)
        | cons m st' =>
          show none = gF T n false (p + 1) (m :: st')
          rw [gF_f, if_neg (by omega), if_neg (by omega)]
      · rw [if_neg c2]
        rfl
    · rw [if_neg c1]
      by_cases c2 : 65 ≤ gC T n p ∧ gC T n p ≤ 90
      · rw [if_pos c2, if_pos c2]
        rfl
      · rw [if_neg c2, if_neg c2]
        by_cases c3 : 48 ≤ gC T n p ∧ gC T n p ≤ 57
        · rw [if_pos c3, if_pos c3]
          by_cases c4 : 48 ≤ gC T n (p + 1) ∧ gC T n (p + 1) ≤ 57
          · rw [if_pos c4, if_pos c4]
            rfl
          · rw [if_neg c4, if_neg c4]
            rfl
        · rw [if_neg c3, if_neg c3, if_neg c1]
          rfl
  | succ r ih =>
    intro p st hs
    rw [gF_t, pT_P]
    by_cases c1 : 97 ≤ gC T n p ∧ gC T n p ≤ 122
    · have n1 : ¬ (65 ≤ gC T n p ∧ gC T n p ≤ 90) := by omega
      have n2 : ¬ (48 ≤ gC T n p ∧ gC T n p ≤ 57) := by omega
      rw [if_pos c1, if_neg n1, if_neg n2, if_pos c1]
      by_cases c2 : gC T n (p + 1) = 40
      · rw [if_pos c2, if_neg (by omega), if_pos ⟨by omega, c2⟩]
        exact gF_args ih 2 (p + 2) 1 st rfl (by omega)
      · rw [if_neg c2, if_neg (fun z => c2 z.2)]
        rfl
    · rw [if_neg c1]
      by_cases c2 : 65 ≤ gC T n p ∧ gC T n p ≤ 90
      · rw [if_pos c2, if_pos c2]
        rfl
      · rw [if_neg c2, if_neg c2]
        by_cases c3 : 48 ≤ gC T n p ∧ gC T n p ≤ 57
        · rw [if_pos c3, if_pos c3]
          by_cases c4 : 48 ≤ gC T n (p + 1) ∧ gC T n (p + 1) ≤ 57
          · rw [if_pos c4, if_pos c4]
            rfl
          · rw [if_neg c4, if_neg c4]
            rfl
        · rw [if_neg c3, if_neg c3, if_neg c1]
          rfl
theorem gTm_pT (p : Nat) : gTm T n p = pT T n 5 p := by
  have h := gF_pT (T := T) (n := n) 4 p [] rfl
  have e : gTm T n p = gF T n true p [] := rfl
  rw [e, h]
  cases pT T n 5 p <;> rfl
theorem pP_gt {r : Nat} (hA : ∀ p q, pT T n r p = some q → p < q) : ∀ (k p q : Nat), pP T n r k p = some q → p < q := by
  intro k
  induction k with
  | zero => intro p q h; cases h
  | succ k ih =>
    intro p q h
    unfold pP at h
    cases e : pT T n r p with
    | none => rw [e] at h; cases h
    | some x =>
      have hx := hA p x e
      rw [e] at h
      dsimp only at h
      split at h
      · cases h
        omega
      · split at h
        · have := ih _ _ h
          omega
        · cases h
theorem pT_gt : ∀ (r p q : Nat), pT T n r p = some q → p < q := by
  intro r
  induction r with
  | zero => intro p q h; cases h
  | succ r ih =>
    intro p q h
    rw [pT_P] at h
    repeat' split at h
    all_goals first | (cases h; done) | (cases h; omega) | (have := pP_gt ih _ _ _ h; omega)
theorem pT_ch {r p q : Nat} (h : pT T n (r + 1) p = some q) : (65 ≤ gC T n p ∧ gC T n p ≤ 90) ∨ (48 ≤ gC T n p ∧ gC T n p ≤ 57) ∨ (97 ≤ gC T n p ∧ gC T n p ≤ 122) := by
  by_cases c1 : 65 ≤ gC T n p ∧ gC T n p ≤ 90
  · exact Or.inl c1
  by_cases c2 : 48 ≤ gC T n p ∧ gC T n p ≤ 57
  · exact Or.inr (Or.inl c2)
  by_cases c3 : 97 ≤ gC T n p ∧ gC T n p ≤ 122
  · exact Or.inr (Or.inr c3)
  rw [pT_P, if_neg c1, if_neg c2, if_neg c3] at h
  cases h
theorem gG1_pG (p : Nat) : gG1 T n p = pG T n p := by
  unfold gG1 pG
  rw [gTm_pT]
  cases e : pT T n 5 p with
  | none => rfl
  | some q =>
    have hc := pT_ch e
    rw [Option.bind_some]
    dsimp only
    rw [gTm_pT]
    by_cases c : 65 ≤ gC T n p ∧ gC T n p ≤ 90
    · have k0 : gK (gC T n p) = 0 := if_pos c
      rw [k0, if_pos rfl]
      by_cases c2 : gC T n q = 35
      · rw [if_pos ⟨c, c2⟩, if_neg (by omega), if_pos c2]
        unfold pK
        cases pT T n 5 (q + 1) with
        | none => rfl
        | some q2 =>
          rw [Option.bind_some]
          dsimp only
          rw [gTm_pT]
      · rw [if_neg (fun z => c2 z.2), if_neg c2]
        by_cases c3 : gC T n q = 61
        · rw [if_pos c3, if_pos c3]
        · rw [if_neg c3, if_neg c3, if_neg (by omega)]
    · rw [if_neg (fun z => c z.1)]
      by_cases c3 : gC T n q = 61
      · rw [if_pos c3, if_pos c3]
      · rw [if_neg c3, if_neg c3]
        by_cases c4 : 97 ≤ gC T n p ∧ gC T n p ≤ 122
        · have k2 : gK (gC T n p) = 2 := by
            unfold gK
            rw [if_neg c, if_neg (by omega)]
          have z2 : ¬ (2 : Int) = 0 := by decide
          rw [if_pos c4, k2, if_neg z2, if_pos rfl]
          rfl
        · have k1 : gK (gC T n p) = 1 := by
            unfold gK
            rw [if_neg c, if_pos (by omega)]
          have z1 : ¬ (1 : Int) = 0 := by decide
          have z2 : ¬ (1 : Int) = 2 := by decide
          rw [if_neg c4, k1, if_neg z1, if_neg z2]
theorem pK_gt {p e : Nat} (h : pK T n p = some e) : p < e := by
  unfold pK at h
  cases e1 : pT T n 5 p with
  | none => rw [e1] at h; cases h
  | some q =>
    have hq := pT_gt _ _ _ e1
    rw [e1] at h
    dsimp only at h
    split at h
    · have := pT_gt _ _ _ h
      omega
    · cases h
theorem pL_ge {q e : Nat} (h : pL T n q = some e) : q ≤ e := by
  unfold pL at h
  repeat' split at h
  all_goals first | (cases h; done) | (cases h; omega)
theorem pI_gt {b : Bool} {p e : Nat} (h : pI T n b p = some e) : p < e := by
  unfold pI at h
  cases b with
  | true =>
    rw [if_pos rfl] at h
    unfold pG at h
    cases e1 : pT T n 5 p with
    | none => rw [e1] at h; cases h
    | some q =>
      have hq := pT_gt _ _ _ e1
      rw [e1] at h
      dsimp only at h
      repeat' split at h
      · have := pT_gt _ _ _ h
        omega
      · have := pK_gt h
        omega
      · cases h
      · have := pL_ge h
        omega
      · cases h
  | false =>
    rw [if_neg (by decide)] at h
    unfold pU at h
    cases e1 : pT T n 5 p with
    | none => rw [e1] at h; cases h
    | some q =>
      have hq := pT_gt _ _ _ e1
      rw [e1] at h
      dsimp only at h
      split at h
      · have := pT_gt _ _ _ h
        omega
      · cases h
theorem pIs_fuel {b : Bool} : ∀ (k k' p : Nat), n - p < 2 * k → n - p < 2 * k' → pIs T n b k p = pIs T n b k' p := by
  intro k
  induction k with
  | zero => intro k' p h; omega
  | succ k ih =>
    intro k' p h h'
    cases k' with
    | zero => omega
    | succ k' =>
      unfold pIs
      cases e : pI T n b p with
      | none => rfl
      | some x =>
        have hx := pI_gt e
        dsimp only
        by_cases c : gC T n x = 44
        · have hp := gC_lt (T := T) (n := n) (p := x) (by omega)
          rw [if_pos c, if_pos c, ih k' (x + 1) (by omega) (by omega)]
        · rw [if_neg c, if_neg c]
theorem gGs_pIs : ∀ (k p : Nat), gGs T n k p = (pIs T n true k p).bind (fun q => if q.1 = n then some q.2 else none) := by
  intro k
  induction k with
  | zero => intro p; rfl
  | succ k ih =>
    intro p
    unfold gGs pIs
    rw [gG1_pG, show pI T n true p = pG T n p from if_pos rfl]
    cases pG T n p with
    | none => rfl
    | some x =>
      rw [Option.bind_some]
      dsimp only
      by_cases c : gC T n x = 44
      · rw [if_pos c, if_pos c, ih]
        cases pIs T n true k (x + 1) with
        | none => rfl
        | some q =>
          rw [Option.bind_some]
          dsimp only
          rw [Option.bind_some]
          dsimp only
          by_cases d : q.1 = n
          · rw [if_pos d, if_pos d]
            rfl
          · rw [if_neg d, if_neg d]
            rfl
      · rw [if_neg c, if_neg c]
        rfl
theorem gU_pIs : ∀ (k p : Nat), gU T n k p = (pIs T n false k p).map (fun q => q.1) := by
  intro k
  induction k with
  | zero => intro p; rfl
  | succ k ih =>
    intro p
    unfold gU pIs
    rw [gTm_pT, show pI T n false p = pU T n p from if_neg (by decide)]
    unfold pU
    cases pT T n 5 p with
    | none => rfl
    | some x =>
      rw [Option.bind_some]
      dsimp only
      by_cases c : gC T n x = 60 ∨ gC T n x = 61 ∨ gC T n x = 126
      · rw [if_pos c, if_pos c, gTm_pT]
        cases pT T n 5 (x + 1) with
        | none => rfl
        | some y =>
          rw [Option.bind_some]
          dsimp only
          by_cases d : gC T n y = 44
          · rw [if_pos d, if_pos d, ih]
            cases pIs T n false k (y + 1) <;> rfl
          · rw [if_neg d, if_neg d]
            rfl
      · rw [if_neg c, if_neg c]
        rfl
theorem gQ_pIs {p : Nat} (hn : n ≤ 48) : gQ T n p = (pIs T n true 48 p).bind (fun q => if q.1 = n then some q.2 else none) := by
  unfold gQ
  rw [gGs_pIs, pIs_fuel (n - p + 1) 48 p (by omega) (by omega)]
theorem pQ_gQ (hn : n ≤ 48) : pQ T n = gQ T n 0 := by
  rw [gQ_pIs hn]
  unfold pQ
  cases pIs T n true 48 0 <;> rfl
theorem pE_gE {q : Nat} (hn : n ≤ 48) : pE T n q = gE T n q := by
  unfold pE gE
  rw [gQ_pIs hn]
  by_cases c : gC T n q = 124
  · rw [if_pos c, if_pos c]
    cases pIs T n true 48 (q + 1) with
    | none => rfl
    | some r =>
      rw [Option.bind_some]
      dsimp only
      by_cases d : r.1 = n
      · rw [if_pos d, decide_eq_true d]
        rfl
      · rw [if_neg d, decide_eq_false d]
        rfl
  · rw [if_neg c, if_neg c]
theorem pC_gCl (hn : n ≤ 48) : pC T n = gCl T n := by
  unfold pC gCl gTc
  rw [gTm_pT]
  by_cases c : 97 ≤ gC T n 0 ∧ gC T n 0 ≤ 122
  · rw [if_pos c, if_pos c]
    cases pT T n 5 0 with
    | none => rfl
    | some q =>
      dsimp only
      by_cases d : gC T n q = 58
      · rw [if_pos d, if_pos d, gU_pIs, pIs_fuel (n - q + 1) 48 (q + 1) (by omega) (by omega)]
        cases pIs T n false 48 (q + 1) with
        | none => rfl
        | some r => exact pE_gE hn
      · rw [if_neg d, if_neg d]
        exact pE_gE hn
  · rw [if_neg c, if_neg c]
/-- equal texts are read alike -/
theorem gC_eq (h : ∀ i, i < n → T' i = T i) (p : Nat) : gC T' n p = gC T n p := by
  unfold gC
  by_cases c : p < n
  · rw [if_pos c, if_pos c, h p c]
  · rw [if_neg c, if_neg c]
theorem pT_eq (h : ∀ p, gC T' n p = gC T n p) : ∀ (r p : Nat), pT T' n r p = pT T n r p := by
  intro r
  induction r with
  | zero => intro p; rfl
  | succ r ih =>
    intro p
    unfold pT
    simp only [h, ih]
theorem pIs_eq (h : ∀ p, gC T' n p = gC T n p) (b : Bool) : ∀ (k p : Nat), pIs T' n b k p = pIs T n b k p := by
  have hI : ∀ p, pI T' n b p = pI T n b p := by
    intro p
    unfold pI pG pU pK pL
    simp only [h, pT_eq h]
  intro k
  induction k with
  | zero => intro p; rfl
  | succ k ih =>
    intro p
    unfold pIs
    simp only [h, hI, ih]
theorem pC_eq (h : ∀ i, i < n → T' i = T i) : pC T' n = pC T n := by
  have hc := gC_eq h
  unfold pC pE
  simp only [hc, pT_eq hc, pIs_eq hc]
theorem pQ_eq (h : ∀ i, i < n → T' i = T i) : pQ T' n = pQ T n := by
  have hc := gC_eq h
  unfold pQ
  simp only [pIs_eq hc]
end GE
