/-! NUMBERS, AND THE TEXTS OF CLAUSES AS TREES: gD d p q: a TERM of at most d depths stands from p to q; brackets and commas counted -/
theorem i32_add {x y : Int32} {s : Int} (h : x.toInt + y.toInt = s) (h1 : -2147483648 ≤ s) (h2 : s < 2147483648) : (x + y).toInt = s := by
  subst h
  rw [Int32.toInt_add]
  exact Int.bmod_eq_of_le (by omega) (by omega)
theorem i32_sub {x y : Int32} {s : Int} (h : x.toInt - y.toInt = s) (h1 : -2147483648 ≤ s) (h2 : s < 2147483648) : (x - y).toInt = s := by
  subst h
  rw [Int32.toInt_sub]
  exact Int.bmod_eq_of_le (by omega) (by omega)
theorem i32_mul {x y : Int32} {s : Int} (h : x.toInt * y.toInt = s) (h1 : -2147483648 ≤ s) (h2 : s < 2147483648) : (x * y).toInt = s := by
  subst h
  rw [Int32.toInt_mul]
  exact Int.bmod_eq_of_le (by omega) (by omega)
theorem i32_cl {x : Int32} {i : Nat} (h : x.toInt = (i : Int)) : x.toNatClampNeg = i := by
  show x.toInt.toNat = i
  omega
theorem up_eq {α : Type} {f : Nat → α} {k : Nat} {x : α} : va_up f k x k = x := if_pos rfl
theorem ud_eq {f : Nat → Int32} {k : Nat} {x : Int32} : upd f k x k = x := if_pos rfl
theorem ud_ne {f : Nat → Int32} {k j : Nat} {x : Int32} (h : j ≠ k) : upd f k x j = f j := if_neg h
/-- k ARGUMENTS from p on, the bracket behind them, up to q -/
def gN (T : Nat → Int32) (n : Nat) (R : Nat → Nat → Prop) : Nat → Nat → Nat → Prop
  | 0, _, _ => False
  | k + 1, p, q => ∃ q1, R p q1 ∧ ((k = 0 ∧ gC T n q1 = 41 ∧ q = q1 + 1) ∨ (k ≠ 0 ∧ gC T n q1 = 44 ∧ gN T n R k (q1 + 1) q))
def gD (T : Nat → Int32) (n : Nat) : Nat → Nat → Nat → Prop
  | 0, _, _ => False
  | d + 1, p, q =>
    ((97 ≤ gC T n p ∧ gC T n p ≤ 122) ∧ gC T n (p + 1) ≠ 40 ∧ q = p + 1) ∨
    ((65 ≤ gC T n p ∧ gC T n p ≤ 90) ∧ q = p + 1) ∨
    ((48 ≤ gC T n p ∧ gC T n p ≤ 57) ∧ ¬ (48 ≤ gC T n (p + 1) ∧ gC T n (p + 1) ≤ 57) ∧ q = p + 1) ∨
    ((48 ≤ gC T n p ∧ gC T n p ≤ 57) ∧ (48 ≤ gC T n (p + 1) ∧ gC T n (p + 1) ≤ 57) ∧ q = p + 2) ∨
    ((97 ≤ gC T n p ∧ gC T n p ≤ 122) ∧ gC T n (p + 1) = 40 ∧ ∃ k, k ≤ 3 ∧ gN T n (gD T n d) k (p + 2) q)
section GD
variable {T : Nat → Int32} {n : Nat}
theorem gT_gD : ∀ (k : Nat) (p : Nat) (st : List Nat) (r : Nat), st.length ≤ 4 → gT T n k true p st = some r → ∃ q k', k' < k ∧ gD T n (5 - st.length) p q ∧ gT T n k' false q st = some r := by
  intro k
  induction k using Nat.strongRecOn with
  | ind k ih =>
    intro p st r hl h
    cases k with
    | zero => cases h
    | succ k =>
      obtain ⟨d, hd⟩ : ∃ d, 5 - st.length = d + 1 := ⟨4 - st.length, by omega⟩
      rw [hd]
      unfold gT at h
      by_cases c1 : 97 ≤ gC T n p ∧ gC T n p ≤ 122
      · rw [if_pos c1] at h
        by_cases c2 : gC T n (p + 1) = 40
        · rw [if_pos c2] at h
          by_cases c3 : st.length = 4
          · rw [if_pos c3] at h
            cases h
          · rw [if_neg c3] at h
            have args : ∀ e m k1 p1, m + e = 3 → k1 < k + 1 → gT T n k1 true p1 (m :: st) = some r → ∃ j q k', k' < k1 ∧ 1 ≤ j ∧ j ≤ e + 1 ∧ gN T n (gD T n d) j p1 q ∧ gT T n k' false q st = some r := by
              intro e
              induction e with
              | zero =>
                intro m k1 p1 hm hk hg
                obtain ⟨q1, k2, hk2, hd1, hg1⟩ := ih k1 hk p1 (m :: st) r (by rw [List.length_cons]; omega) hg
                rw [List.length_cons, show 5 - (st.length + 1) = d from by omega] at hd1
                cases k2 with
                | zero => cases hg1
                | succ k2 =>
                  unfold gT at hg1
                  rw [if_neg (by omega)] at hg1
                  by_cases c : gC T n q1 = 41
                  · rw [if_pos c] at hg1
                    exact ⟨1, q1 + 1, k2, by omega, by omega, by omega, ⟨q1, hd1, Or.inl ⟨rfl, c, rfl⟩⟩, hg1⟩
                  · rw [if_neg c] at hg1
                    cases hg1
              | succ e ihe =>
                intro m k1 p1 hm hk hg
                obtain ⟨q1, k2, hk2, hd1, hg1⟩ := ih k1 hk p1 (m :: st) r (by rw [List.length_cons]; omega) hg
                rw [List.length_cons, show 5 - (st.length + 1) = d from by omega] at hd1
                cases k2 with
                | zero => cases hg1
                | succ k2 =>
                  unfold gT at hg1
                  by_cases c4 : gC T n q1 = 44
                  · rw [if_pos ⟨c4, by omega⟩] at hg1
                    obtain ⟨j, q, k', a1, a2, a3, a4, a5⟩ := ihe (m + 1) k2 (q1 + 1) (by omega) (by omega) hg1
                    exact ⟨j + 1, q, k', by omega, by omega, by omega, ⟨q1, hd1, Or.inr ⟨by omega, c4, a4⟩⟩, a5⟩
                  · rw [if_neg (by omega)] at hg1
                    by_cases c : gC T n q1 = 41
                    · rw [if_pos c] at hg1
                      exact ⟨1, q1 + 1, k2, by omega, by omega, by omega, ⟨q1, hd1, Or.inl ⟨rfl, c, rfl⟩⟩, hg1⟩
                    · rw [if_neg c] at hg1
                      cases hg1
            obtain ⟨j, q, k', a1, a2, a3, a4, a5⟩ := args 2 1 k (p + 2) rfl (by omega) h
            exact ⟨q, k', by omega, Or.inr (Or.inr (Or.inr (Or.inr ⟨c1, c2, j, by omega, a4⟩))), a5⟩
        · rw [if_neg c2] at h
          exact ⟨p + 1, k, by omega, Or.inl ⟨c1, c2, rfl⟩, h⟩
      · rw [if_neg c1] at h
        by_cases c2 : 65 ≤ gC T n p ∧ gC T n p ≤ 90
        · rw [if_pos c2] at h
          exact ⟨p + 1, k, by omega, Or.inr (Or.inl ⟨c2, rfl⟩), h⟩
        · rw [if_neg c2] at h
          by_cases c3 : 48 ≤ gC T n p ∧ gC T n p ≤ 57
          · rw [if_pos c3] at h
            by_cases c4 : 48 ≤ gC T n (p + 1) ∧ gC T n (p + 1) ≤ 57
            · rw [if_pos c4] at h
              exact ⟨p + 2, k, by omega, Or.inr (Or.inr (Or.inr (Or.inl ⟨c3, c4, rfl⟩))), h⟩
            · rw [if_neg c4] at h
              exact ⟨p + 1, k, by omega, Or.inr (Or.inr (Or.inl ⟨c3, c4, rfl⟩)), h⟩
          · rw [if_neg c3] at h
            cases h
theorem gTm_gD {p q : Nat} (h : gTm T n p = some q) : gD T n 5 p q := by
  obtain ⟨q', k', -, h1, h2⟩ := gT_gD _ p [] q (by decide) h
  cases k' with
  | zero => cases h2
  | succ k' =>
    unfold gT at h2
    cases h2
    exact h1
/-- brackets open behind the first i characters from p on -/
def gB (T : Nat → Int32) (n p : Nat) : Nat → Int
  | 0 => 0
  | i + 1 => gB T n p i + (if gC T n (p + i) = 40 then 1 else if gC T n (p + i) = 41 then -1 else 0)
/-- commas at depth h among them -/
def gM (T : Nat → Int32) (n p : Nat) (h : Int) : Nat → Nat
  | 0 => 0
  | i + 1 => gM T n p h i + (if gC T n (p + i) = 44 ∧ gB T n p i = h then 1 else 0)
theorem gB_s (p i : Nat) : gB T n p (i + 1) = gB T n p i + (if gC T n (p + i) = 40 then 1 else if gC T n (p + i) = 41 then -1 else 0) := rfl
theorem gM_s (p i : Nat) (h : Int) : gM T n p h (i + 1) = gM T n p h i + (if gC T n (p + i) = 44 ∧ gB T n p i = h then 1 else 0) := rfl
theorem gB_add (p i : Nat) : ∀ j, gB T n p (i + j) = gB T n p i + gB T n (p + i) j := by
  intro j
  induction j with
  | zero => unfold gB; rw [Nat.add_zero]; cases i <;> simp [gB]
  | succ j ih =>
    rw [← Nat.add_assoc, gB_s, gB_s, ih, Nat.add_assoc p i j, Int.add_assoc]
theorem gM_add (p i : Nat) (h : Int) : ∀ j, gM T n p h (i + j) = gM T n p h i + gM T n (p + i) (h - gB T n p i) j := by
  intro j
  induction j with
  | zero => rfl
  | succ j ih =>
    rw [← Nat.add_assoc, gM_s, gM_s, ih, gB_add, Nat.add_assoc (gM T n p h i), Nat.add_assoc p i j]
    congr 2
    by_cases c : gC T n (p + (i + j)) = 44
    · by_cases e : gB T n p i + gB T n (p + i) j = h
      · rw [if_pos ⟨c, e⟩, if_pos ⟨c, by omega⟩]
      · rw [if_neg (fun z => e z.2), if_neg (fun z => e (by have := z.2; omega))]
    · rw [if_neg (fun z => c z.1), if_neg (fun z => c z.1)]
/-- a whole TERM: brackets close, never go below, commas stand within -/
def gW (T : Nat → Int32) (n p l : Nat) : Prop := 1 ≤ l ∧ p + l ≤ n ∧ gB T n p l = 0 ∧ ∀ i, i < l → 0 ≤ gB T n p i ∧ (gC T n (p + i) = 44 → 1 ≤ gB T n p i) ∧ (gC T n (p + i) = 41 → 1 ≤ gB T n p i) ∧ gC T n (p + i) ≠ 124 ∧ gC T n (p + i) ≠ 0
/-- k ARGUMENTS and the bracket behind them -/
def gV (T : Nat → Int32) (n p l k : Nat) : Prop := 2 ≤ l ∧ p + l ≤ n ∧ gB T n p l = -1 ∧ gM T n p 0 l + 1 = k ∧ ∀ i, i < l → 0 ≤ gB T n p i ∧ (gC T n (p + i) = 41 → 1 ≤ gB T n p i ∨ i + 1 = l) ∧ gC T n (p + i) ≠ 124 ∧ gC T n (p + i) ≠ 0
theorem gM_zero {p l : Nat} {h : Int} (hz : ∀ i, i < l → gC T n (p + i) = 44 → gB T n p i ≠ h) : gM T n p h l = 0 := by
  induction l with
  | zero => rfl
  | succ l ih =>
    unfold gM
    rw [ih (fun i hi => hz i (by omega)), if_neg (fun z => hz l (by omega) z.1 z.2)]
theorem gW_one {p : Nat} (h0 : gC T n p ≠ 0) (h1 : gC T n p ≠ 40) (h2 : gC T n p ≠ 41) (h3 : gC T n p ≠ 44) (h4 : gC T n p ≠ 124) : gW T n p 1 := by
  have := gC_lt h0
  refine ⟨by omega, by omega, ?_, fun i hi => ?_⟩
  · show 0 + (if gC T n (p + 0) = 40 then (1 : Int) else if gC T n (p + 0) = 41 then -1 else 0) = 0
    rw [Nat.add_zero, if_neg h1, if_neg h2]
    rfl
  · obtain rfl : i = 0 := by omega
    rw [Nat.add_zero]
    exact ⟨Int.le_refl _, fun z => absurd z h3, fun z => absurd z h2, h4, h0⟩
theorem gW_app {p l m : Nat} (h : gW T n p l) (g : gW T n (p + l) m) : gW T n p (l + m) := by
  obtain ⟨a1, a2, a3, a4⟩ := h
  obtain ⟨b1, b2, b3, b4⟩ := g
  refine ⟨by omega, by omega, by rw [gB_add, a3, b3]; rfl, fun i hi => ?_⟩
  by_cases c : i < l
  · exact a4 i c
  · obtain ⟨j, rfl⟩ : ∃ j, i = l + j := ⟨i - l, by omega⟩
    rw [gB_add, a3, ← Nat.add_assoc, Int.zero_add]
    exact b4 j (by omega)
theorem gV_one {p l : Nat} (h : gW T n p l) (hc : gC T n (p + l) = 41) : gV T n p (l + 1) 1 := by
  obtain ⟨a1, a2, a3, a4⟩ := h
  have := gC_lt (T := T) (n := n) (p := p + l) (by omega)
  refine ⟨by omega, by omega, ?_, ?_, fun i hi => ?_⟩
  · show gB T n p l + _ = -1
    rw [a3, if_neg (by omega), if_pos hc]
    rfl
  · have : gM T n p 0 (l + 1) = 0 := by
      refine gM_zero (fun i hi h44 => ?_)
      by_cases c : i < l
      · have := (a4 i c).2.1 h44
        omega
      · obtain rfl : i = l := by omega
        omega
    omega
  · by_cases c : i < l
    · exact ⟨(a4 i c).1, fun z => Or.inl ((a4 i c).2.2.1 z), (a4 i c).2.2.2.1, (a4 i c).2.2.2.2⟩
    · obtain rfl : i = l := by omega
      rw [a3]
      exact ⟨Int.le_refl _, fun _ => Or.inr rfl, by omega, by omega⟩
theorem gV_more {p l m k : Nat} (h : gW T n p l) (hc : gC T n (p + l) = 44) (g : gV T n (p + l + 1) m k) : gV T n p (l + 1 + m) (k + 1) := by
  obtain ⟨a1, a2, a3, a4⟩ := h
  obtain ⟨b1, b2, b3, b4, b5⟩ := g
  have e1 : gB T n p (l + 1) = 0 := by
    show gB T n p l + _ = 0
    rw [a3, if_neg (by omega), if_neg (by omega)]
    rfl
  refine ⟨by omega, by omega, by rw [gB_add, e1, ← Nat.add_assoc, b3]; rfl, ?_, fun i hi => ?_⟩
  · have e2 : gM T n p 0 l = 0 := gM_zero (fun i hi h44 => by have := (a4 i hi).2.1 h44; omega)
    have e3 : gM T n p 0 (l + 1) = 1 := by
      show gM T n p 0 l + _ = 1
      rw [e2, if_pos ⟨hc, a3⟩]
    rw [gM_add, e3, e1, ← Nat.add_assoc p l 1, Int.sub_zero]
    omega
  · by_cases c : i < l + 1
    · by_cases c2 : i < l
      · exact ⟨(a4 i c2).1, fun z => Or.inl ((a4 i c2).2.2.1 z), (a4 i c2).2.2.2.1, (a4 i c2).2.2.2.2⟩
      · obtain rfl : i = l := by omega
        rw [a3]
        exact ⟨Int.le_refl _, fun z => by omega, by omega, by omega⟩
    · obtain ⟨j, rfl⟩ : ∃ j, i = l + 1 + j := ⟨i - (l + 1), by omega⟩
      rw [gB_add, e1, ← Nat.add_assoc p (l + 1) j, ← Nat.add_assoc p l 1, Int.zero_add]
      obtain ⟨c1, c2, c3⟩ := b5 j (by omega)
      exact ⟨c1, fun z => (c2 z).imp id (fun e => by omega), c3⟩
theorem gN_gV {R : Nat → Nat → Prop} (hR : ∀ p q, R p q → ∃ l, q = p + l ∧ gW T n p l) : ∀ k p q, gN T n R k p q → ∃ l, q = p + l ∧ gV T n p l k := by
  intro k
  induction k with
  | zero => intro p q h; exact h.elim
  | succ k ih =>
    intro p q h
    obtain ⟨q1, h1, h2⟩ := h
    obtain ⟨l, rfl, hw⟩ := hR p q1 h1
    rcases h2 with ⟨rfl, hc, rfl⟩ | ⟨_, hc, hn⟩
    · exact ⟨l + 1, by omega, gV_one hw hc⟩
    · obtain ⟨m, rfl, hv⟩ := ih _ _ hn
      exact ⟨l + 1 + m, by omega, gV_more hw hc hv⟩
/-- a letter, a bracket, k ARGUMENTS, a bracket -/
theorem gW_comp {p l k : Nat} (h0 : 97 ≤ gC T n p ∧ gC T n p ≤ 122) (h1 : gC T n (p + 1) = 40) (g : gV T n (p + 2) l k) : gW T n p (2 + l) := by
  obtain ⟨b1, b2, b3, b4, b5⟩ := g
  have e1 : gB T n p 1 = 0 := by
    show 0 + (if gC T n (p + 0) = 40 then (1 : Int) else if gC T n (p + 0) = 41 then -1 else 0) = 0
    rw [Nat.add_zero, if_neg (by omega), if_neg (by omega)]
    rfl
  have e2 : gB T n p 2 = 1 := by
    show gB T n p 1 + _ = 1
    rw [e1, if_pos h1]
    rfl
  refine ⟨by omega, by omega, by rw [gB_add, e2, b3]; rfl, fun i hi => ?_⟩
  by_cases c : i < 2
  · by_cases c0 : i = 0
    · subst c0
      rw [Nat.add_zero]
      exact ⟨Int.le_refl _, fun z => by omega, fun z => by omega, by omega, by omega⟩
    · obtain rfl : i = 1 := by omega
      rw [e1]
      exact ⟨Int.le_refl _, fun z => by omega, fun z => by omega, by omega, by omega⟩
  · obtain ⟨j, rfl⟩ : ∃ j, i = 2 + j := ⟨i - 2, by omega⟩
    rw [gB_add, e2, ← Nat.add_assoc]
    obtain ⟨c1, c2, c3, c4⟩ := b5 j (by omega)
    exact ⟨by omega, fun _ => by omega, fun _ => by omega, c3, c4⟩
theorem gD_gW : ∀ d p q, gD T n d p q → ∃ l, q = p + l ∧ gW T n p l := by
  intro d
  induction d with
  | zero => intro p q h; exact h.elim
  | succ d ih =>
    intro p q h
    rcases h with ⟨c, c2, rfl⟩ | ⟨c, rfl⟩ | ⟨c, c2, rfl⟩ | ⟨c, c2, rfl⟩ | ⟨c, c2, k, hk, hn⟩
    · exact ⟨1, rfl, gW_one (by omega) (by omega) (by omega) (by omega) (by omega)⟩
    · exact ⟨1, rfl, gW_one (by omega) (by omega) (by omega) (by omega) (by omega)⟩
    · exact ⟨1, rfl, gW_one (by omega) (by omega) (by omega) (by omega) (by omega)⟩
    · exact ⟨2, rfl, gW_app (gW_one (by omega) (by omega) (by omega) (by omega) (by omega)) (gW_one (by omega) (by omega) (by omega) (by omega) (by omega))⟩
    · obtain ⟨l, rfl, hv⟩ := gN_gV ih _ _ _ hn
      exact ⟨2 + l, by omega, gW_comp c c2 hv⟩
end GD
/-- the text that is used: T from b on, n characters, now at p -/
def tV (v : Nat → Int32) (a : Nat → Nat → Int32) (T : Nat → Int32) (b n p : Nat) : Prop := (v 12).toInt = ((b + p : Nat) : Int) ∧ (v 13).toInt = ((b + n : Nat) : Int) ∧ p ≤ n + 1 ∧ b + n ≤ 624 ∧ ∀ i, i < n → a 1 (b + i) = T i
section TV
variable {v v1 : Nat → Int32} {a a1 : Nat → Nat → Int32} {T : Nat → Int32} {b n p j : Nat}
theorem m_at_g {i : Int32} (h13 : (v 13).toInt = ((b + n : Nat) : Int)) (hT : ∀ i, i < n → a 1 (b + i) = T i) (hi : i.toInt = ((b + j : Nat) : Int)) : (m_at v a i).toInt = gC T n j := by
  unfold m_at gC
  by_cases h : j < n
  · rw [if_pos (by omega), if_pos h, i32_cl hi, hT j h]
  · rw [if_neg (by omega), if_neg h]
    decide
theorem tV.at (h : tV v a T b n p) : (m_at v a (v 12)).toInt = gC T n p := m_at_g h.2.1 h.2.2.2.2 h.1
theorem tV.e1 (h : tV v a T b n p) : (v 12 + 1).toInt = ((b + (p + 1) : Nat) : Int) := by
  obtain ⟨h1, h2, h3, h4, h5⟩ := h
  rw [i32_succ (by omega) (by omega), h1]
  omega
theorem tV.at1 (h : tV v a T b n p) : (m_at v a (v 12 + 1)).toInt = gC T n (p + 1) := m_at_g h.2.1 h.2.2.2.2 h.e1
theorem tV.at2 (h : tV v a T b n p) {x : Int32} : (m_at (va_up v 12 x) a (v 12 + 1)).toInt = gC T n (p + 1) := m_at_g (v := va_up v 12 x) h.2.1 h.2.2.2.2 h.e1
theorem tV.b0 (h : tV v a T b n p) : 0 ≤ (v 12).toInt := by
  have := h.1
  omega
theorem tV.b6 (h : tV v a T b n p) : (v 13).toInt ≤ 624 := by
  obtain ⟨h1, h2, h3, h4, h5⟩ := h
  omega
theorem tV.nx (h : tV v a T b n p) (hp : p ≤ n) : tV (va_up v 12 (v 12 + 1)) a T b n (p + 1) := ⟨h.e1, h.2.1, by omega, h.2.2.2.1, h.2.2.2.2⟩
theorem tV.of (h : tV v a T b n p) (e12 : v1 12 = v 12) (e13 : v1 13 = v 13) (e1 : a1 1 = a 1) : tV v1 a1 T b n p := by
  refine ⟨by rw [e12]; exact h.1, by rw [e13]; exact h.2.1, h.2.2.1, h.2.2.2.1, by rw [e1]; exact h.2.2.2.2⟩
end TV
