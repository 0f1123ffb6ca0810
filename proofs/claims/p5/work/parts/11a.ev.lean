/-! RUNS OF THE ABSTRACT MACHINE, with no count of steps: rules by which a run is put together -/
section SXEV
variable {K0 : Nat} {ft : Nat → Nat → FieldType} {df : Nat → List Value} {tf : Nat → FieldType} {cst : Nat → Nat → Bool} {zs : List (String × String × String × Value)} {ks : Nat → Value} {mt : Nat → Option sx_M}
theorem sx_plus_some {a b : Nat} {o : Option sx_Res} {r : sx_Res} (h : sx_plus a b o = some r) : ∃ q : sx_Res, o = some q ∧ r = (q.1, q.2.1, a + q.2.2.1, b + q.2.2.2) := by
  obtain ⟨q, h1, h2⟩ := Option.bind_eq_some_iff.mp h
  exact ⟨q, h1, (Option.some.inj h2).symm⟩
theorem sx_run_mono : ∀ (n d : Nat) (M : sx_M) (pc : Nat) (lv : List (Nat × Value)) (st : List Value) (hs : sx_H) (r : sx_Res), sx_run K0 ft df tf cst zs ks mt n d M pc lv st hs = some r → ∀ n' d' : Nat, n ≤ n' → d ≤ d' → sx_run K0 ft df tf cst zs ks mt n' d' M pc lv st hs = some r := by
  intro n
  induction n with
  | zero =>
    intro d M pc lv st hs r h
    cases h
  | succ n ih =>
    intro d M pc lv st hs r h n' d' hn hd
    cases n' with
    | zero => exact absurd hn (Nat.not_succ_le_zero n)
    | succ n' =>
      have hn : n ≤ n' := Nat.le_of_succ_le_succ hn
      unfold sx_run at h ⊢
      obtain ⟨I, hI, h⟩ := Option.bind_eq_some_iff.mp h
      rw [hI, Option.bind_some]
      by_cases k0 : sx_kd I.1 I.2.2.2 = 0
      · rw [if_pos k0] at h ⊢
        obtain ⟨S, hS, h⟩ := Option.bind_eq_some_iff.mp h
        rw [hS, Option.bind_some]
        obtain ⟨q, hq, rfl⟩ := sx_plus_some h
        rw [ih _ _ _ _ _ _ _ hq n' d' hn hd]
        rfl
      rw [if_neg k0] at h ⊢
      by_cases k1 : sx_kd I.1 I.2.2.2 = 1
      · rw [if_pos k1] at h ⊢
        exact h
      rw [if_neg k1] at h ⊢
      by_cases k3 : sx_kd I.1 I.2.2.2 = 3
      · rw [if_pos k3] at h ⊢
        obtain ⟨q, hq, h⟩ := Option.bind_eq_some_iff.mp h
        rw [hq, Option.bind_some]
        by_cases hc : 1 ≤ d ∧ sx_cats q.2 ≤ 8
        · rw [if_pos hc] at h
          rw [if_pos ⟨Nat.le_trans hc.1 hd, hc.2⟩]
          exact ih _ _ _ _ _ _ _ h n' d' hn hd
        · rw [if_neg hc] at h
          cases h
      rw [if_neg k3] at h ⊢
      by_cases k4 : sx_kd I.1 I.2.2.2 = 4
      · rw [if_pos k4] at h ⊢
        by_cases hc : 6 ≤ d ∧ sx_cats st ≤ 8
        · rw [if_pos hc] at h
          rw [if_pos ⟨Nat.le_trans hc.1 hd, hc.2⟩]
          exact h
        · rw [if_neg hc] at h
          cases h
      rw [if_neg k4] at h ⊢
      by_cases k5 : sx_kd I.1 I.2.2.2 = 5
      · rw [if_pos k5] at h ⊢
        obtain ⟨q, hq, h⟩ := Option.bind_eq_some_iff.mp h
        rw [hq, Option.bind_some]
        by_cases hc : 1 ≤ d ∧ sx_cats q.2.1 ≤ 8
        · rw [if_pos hc] at h
          rw [if_pos ⟨Nat.le_trans hc.1 hd, hc.2⟩]
          exact ih _ _ _ _ _ _ _ h n' d' hn hd
        · rw [if_neg hc] at h
          cases h
      rw [if_neg k5] at h ⊢
      cases d with
      | zero => cases h
      | succ d =>
        cases d' with
        | zero => exact absurd hd (Nat.not_succ_le_zero d)
        | succ d' =>
          have hd1 : d ≤ d' := Nat.le_of_succ_le_succ hd
          dsimp only at h ⊢
          obtain ⟨M', hM', h⟩ := Option.bind_eq_some_iff.mp h
          rw [hM', Option.bind_some]
          split at h
          · rename_i hc
            rw [if_pos hc]
            obtain ⟨r1, h1, h⟩ := Option.bind_eq_some_iff.mp h
            rw [ih _ _ _ _ _ _ _ h1 n' d' hn hd1, Option.bind_some]
            obtain ⟨q, hq, rfl⟩ := sx_plus_some h
            obtain ⟨v1, hs2, dc1, ds1⟩ := r1
            dsimp only at hq ⊢
            cases v1 with
            | inl v =>
              dsimp only at hq ⊢
              rw [ih _ _ _ _ _ _ _ hq n' (d' + 1) hn hd]
              rfl
            | inr x =>
              dsimp only at hq ⊢
              split at hq
              · rename_i j hj
                obtain ⟨hp, hf, hq⟩ := Option.bind_eq_some_iff.mp hq
                split at hq
                · rename_i hc9
                  simp only [hj, hf, Option.bind_some, if_pos hc9]
                  rw [ih _ _ _ _ _ _ _ hq n' (d' + 1) hn hd]
                  rfl
                · cases hq
              · cases hq
          · cases h
variable (K0 ft df tf cst zs ks mt) in
/-- the run from here ends with r -/
def sx_ev (d : Nat) (M : sx_M) (pc : Nat) (lv : List (Nat × Value)) (st : List Value) (hs : sx_H) (r : sx_Res) : Prop := ∃ n : Nat, sx_run K0 ft df tf cst zs ks mt n d M pc lv st hs = some r
variable {d pc : Nat} {M M' : sx_M} {lv : List (Nat × Value)} {st : List Value} {hs : sx_H} {r r1 r2 : sx_Res} {I : Instr × Nat × Nat × Nat}
theorem sx_ev.deep {d' : Nat} (h : sx_ev K0 ft df tf cst zs ks mt d M pc lv st hs r) (hd : d ≤ d') : sx_ev K0 ft df tf cst zs ks mt d' M pc lv st hs r := by
  obtain ⟨n, h⟩ := h
  exact ⟨n, sx_run_mono n d M pc lv st hs r h n d' (Nat.le_refl n) hd⟩
theorem sx_ev.step {S : (Nat × List (Nat × Value) × List Value) × sx_H × Nat × Nat} (hI : M.2.2.2.2.2.2.1 pc = some I) (h0 : sx_kd I.1 I.2.2.2 = 0) (hS : sx_hs K0 ft df tf cst zs ks M.2.2.1 I.1 I.2.1 I.2.2.1 I.2.2.2 pc lv st hs = some S) (h : sx_ev K0 ft df tf cst zs ks mt d M S.1.1 S.1.2.1 S.1.2.2 S.2.1 r) :
    sx_ev K0 ft df tf cst zs ks mt d M pc lv st hs (r.1, r.2.1, S.2.2.1 + r.2.2.1, S.2.2.2 + r.2.2.2) := by
  obtain ⟨n, h⟩ := h
  refine ⟨n + 1, ?_⟩
  unfold sx_run
  rw [hI, Option.bind_some, if_pos h0, hS, Option.bind_some, h]
  rfl
theorem sx_ev.stop (hI : M.2.2.2.2.2.2.1 pc = some I) (h1 : sx_kd I.1 I.2.2.2 = 1) (h : sx_end M.2.2.2.1 I.1 I.2.1 st hs = some r) : sx_ev K0 ft df tf cst zs ks mt d M pc lv st hs r := by
  refine ⟨1, ?_⟩
  unfold sx_run
  rw [hI, Option.bind_some, if_neg (by rw [h1]; decide), if_pos h1]
  exact h
theorem sx_ev.obj {q : Nat × List Value} (hI : M.2.2.2.2.2.2.1 pc = some I) (h3 : sx_kd I.1 I.2.2.2 = 3) (hq : sx_popR st = some q) (hc : 1 ≤ d ∧ sx_cats q.2 ≤ 8) (h : sx_ev K0 ft df tf cst zs ks mt d M (pc + 3) lv q.2 hs r) : sx_ev K0 ft df tf cst zs ks mt d M pc lv st hs r := by
  obtain ⟨n, h⟩ := h
  refine ⟨n + 1, ?_⟩
  unfold sx_run
  rw [hI, Option.bind_some, if_neg (by rw [h3]; decide), if_neg (by rw [h3]; decide), if_pos h3, hq, Option.bind_some, if_pos hc]
  exact h
theorem sx_ev.nat {q : Nat × List Value × sx_H} (hI : M.2.2.2.2.2.2.1 pc = some I) (h5 : sx_kd I.1 I.2.2.2 = 5) (hq : sx_nt K0 tf cst I.1 I.2.2.1 pc st hs = some q) (hc : 1 ≤ d ∧ sx_cats q.2.1 ≤ 8) (h : sx_ev K0 ft df tf cst zs ks mt d M q.1 lv q.2.1 q.2.2 r) : sx_ev K0 ft df tf cst zs ks mt d M pc lv st hs r := by
  obtain ⟨n, h⟩ := h
  refine ⟨n + 1, ?_⟩
  unfold sx_run
  rw [hI, Option.bind_some, if_neg (by rw [h5]; decide), if_neg (by rw [h5]; decide), if_neg (by rw [h5]; decide), if_neg (by rw [h5]; decide), if_pos h5, hq, Option.bind_some, if_pos hc]
  exact h
theorem sx_ev.throw (hI : M.2.2.2.2.2.2.1 pc = some I) (h4 : sx_kd I.1 I.2.2.2 = 4) (hc : 6 ≤ d ∧ sx_cats st ≤ 8) : sx_ev K0 ft df tf cst zs ks mt d M pc lv st hs (.inr hs.length, hs ++ [.inr (.inr I.2.2.1)], 1, 6) := by
  refine ⟨1, ?_⟩
  unfold sx_run
  rw [hI, Option.bind_some, if_neg (by rw [h4]; decide), if_neg (by rw [h4]; decide), if_neg (by rw [h4]; decide), if_pos h4, if_pos hc]
theorem sx_ev.call {v : Option Value} (hI : M.2.2.2.2.2.2.1 pc = some I) (h2 : sx_kd I.1 I.2.2.2 = 2) (hM : mt I.2.2.1 = some M') (hc : sx_tot I.1 M'.2.2.2.2.1 ≤ st.length ∧ sx_rcv K0 hs I.1 I.2.2.2 (st.take (sx_tot I.1 M'.2.2.2.2.1)).reverse = true ∧ sx_cats (st.drop (sx_tot I.1 M'.2.2.2.2.1)) ≤ 8 ∧ (lg_sl (st.take (sx_tot I.1 M'.2.2.2.2.1)).reverse).length ≤ M'.2.2.1)
    (h : sx_ev K0 ft df tf cst zs ks mt d M' 0 (lv_args 0 (st.take (sx_tot I.1 M'.2.2.2.2.1)).reverse) [] hs r1) (hv : r1.1 = .inl v) (hk : sx_ev K0 ft df tf cst zs ks mt (d + 1) M (pc + 3) lv (v.toList ++ st.drop (sx_tot I.1 M'.2.2.2.2.1)) r1.2.1 r2) :
    sx_ev K0 ft df tf cst zs ks mt (d + 1) M pc lv st hs (r2.1, r2.2.1, r1.2.2.1 + r2.2.2.1, r1.2.2.2 + r2.2.2.2) := by
  obtain ⟨n1, h⟩ := h
  obtain ⟨n2, hk⟩ := hk
  refine ⟨n1 + n2 + 1, ?_⟩
  unfold sx_run
  rw [hI, Option.bind_some, if_neg (by rw [h2]; decide), if_neg (by rw [h2]; decide), if_neg (by rw [h2]; decide), if_neg (by rw [h2]; decide), if_neg (by rw [h2]; decide)]
  dsimp only
  rw [hM, Option.bind_some, if_pos hc, sx_run_mono _ _ _ _ _ _ _ _ h (n1 + n2) d (by omega) (Nat.le_refl d), Option.bind_some, hv]
  dsimp only
  rw [sx_run_mono _ _ _ _ _ _ _ _ hk (n1 + n2) (d + 1) (by omega) (Nat.le_refl _)]
  rfl
theorem sx_ev.caught {x j h9 : Nat} (hI : M.2.2.2.2.2.2.1 pc = some I) (h2 : sx_kd I.1 I.2.2.2 = 2) (hM : mt I.2.2.1 = some M') (hc : sx_tot I.1 M'.2.2.2.2.1 ≤ st.length ∧ sx_rcv K0 hs I.1 I.2.2.2 (st.take (sx_tot I.1 M'.2.2.2.2.1)).reverse = true ∧ sx_cats (st.drop (sx_tot I.1 M'.2.2.2.2.1)) ≤ 8 ∧ (lg_sl (st.take (sx_tot I.1 M'.2.2.2.2.1)).reverse).length ≤ M'.2.2.1)
    (h : sx_ev K0 ft df tf cst zs ks mt d M' 0 (lv_args 0 (st.take (sx_tot I.1 M'.2.2.2.2.1)).reverse) [] hs r1) (hv : r1.1 = .inr x) (hj : r1.2.1[x]? = some (.inr (.inr j))) (hf : sx_find M.2.2.2.2.2.2.2 pc j = some h9) (hc9 : K0 ≤ x ∧ sx_isV I.1 = true) (hk : sx_ev K0 ft df tf cst zs ks mt (d + 1) M h9 lv [.ref x] r1.2.1 r2) :
    sx_ev K0 ft df tf cst zs ks mt (d + 1) M pc lv st hs (r2.1, r2.2.1, r1.2.2.1 + r2.2.2.1, r1.2.2.2 + r2.2.2.2) := by
  obtain ⟨n1, h⟩ := h
  obtain ⟨n2, hk⟩ := hk
  refine ⟨n1 + n2 + 1, ?_⟩
  unfold sx_run
  rw [hI, Option.bind_some, if_neg (by rw [h2]; decide), if_neg (by rw [h2]; decide), if_neg (by rw [h2]; decide), if_neg (by rw [h2]; decide), if_neg (by rw [h2]; decide)]
  dsimp only
  rw [hM, Option.bind_some, if_pos hc, sx_run_mono _ _ _ _ _ _ _ _ h (n1 + n2) d (by omega) (Nat.le_refl d), Option.bind_some, hv]
  simp only [hj, hf, Option.bind_some, if_pos hc9]
  rw [sx_run_mono _ _ _ _ _ _ _ _ hk (n1 + n2) (d + 1) (by omega) (Nat.le_refl _)]
  rfl
end SXEV
