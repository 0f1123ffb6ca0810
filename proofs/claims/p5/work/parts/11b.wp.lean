/-! THE RULES AGAIN, with what must hold at the end and counters of cells and slots made so far -/
section SXWP
variable {K0 : Nat} {ft : Nat → Nat → FieldType} {df : Nat → List Value} {tf : Nat → FieldType} {cst : Nat → Nat → Bool} {zs : List (String × String × String × Value)} {ks : Nat → Value} {mt : Nat → Option sx_M}
variable (K0 ft df tf cst zs ks mt) in
def sx_wp (d : Nat) (M : sx_M) (pc : Nat) (lv : List (Nat × Value)) (st : List Value) (hs : sx_H) (dc ds : Nat) (P : Option Value ⊕ Nat → sx_H → Nat → Nat → Prop) : Prop := ∃ r : sx_Res, sx_ev K0 ft df tf cst zs ks mt d M pc lv st hs r ∧ P r.1 r.2.1 (dc + r.2.2.1) (ds + r.2.2.2)
variable {d pc dc ds : Nat} {M M' : sx_M} {lv : List (Nat × Value)} {st : List Value} {hs : sx_H} {i : Instr} {len a b : Nat} {P : Option Value ⊕ Nat → sx_H → Nat → Nat → Prop}
theorem sx_wp.step {pc1 dc1 ds1 : Nat} {lv1 : List (Nat × Value)} {st1 : List Value} {hs1 : sx_H} (hI : M.2.2.2.2.2.2.1 pc = some (i, len, a, b)) (h0 : sx_kd i b = 0) (hS : sx_hs K0 ft df tf cst zs ks M.2.2.1 i len a b pc lv st hs = some ((pc1, lv1, st1), hs1, dc1, ds1)) (h : sx_wp K0 ft df tf cst zs ks mt d M pc1 lv1 st1 hs1 (dc + dc1) (ds + ds1) P) : sx_wp K0 ft df tf cst zs ks mt d M pc lv st hs dc ds P := by
  obtain ⟨r, h, hP⟩ := h
  refine ⟨_, sx_ev.step hI h0 hS h, ?_⟩
  dsimp only
  rw [← Nat.add_assoc, ← Nat.add_assoc]
  exact hP
theorem sx_wp.stop {v : Option Value ⊕ Nat} {hs1 : sx_H} {dc1 ds1 : Nat} (hI : M.2.2.2.2.2.2.1 pc = some (i, len, a, b)) (h1 : sx_kd i b = 1) (h : sx_end M.2.2.2.1 i len st hs = some (v, hs1, dc1, ds1)) (hP : P v hs1 (dc + dc1) (ds + ds1)) : sx_wp K0 ft df tf cst zs ks mt d M pc lv st hs dc ds P :=
  ⟨_, sx_ev.stop hI h1 h, hP⟩
theorem sx_wp.obj {q : Nat} {st1 : List Value} (hI : M.2.2.2.2.2.2.1 pc = some (i, len, a, b)) (h3 : sx_kd i b = 3) (hq : sx_popR st = some (q, st1)) (hc : 1 ≤ d ∧ sx_cats st1 ≤ 8) (h : sx_wp K0 ft df tf cst zs ks mt d M (pc + 3) lv st1 hs dc ds P) : sx_wp K0 ft df tf cst zs ks mt d M pc lv st hs dc ds P := by
  obtain ⟨r, h, hP⟩ := h
  exact ⟨r, sx_ev.obj hI h3 hq hc h, hP⟩
theorem sx_wp.nat {pc1 : Nat} {st1 : List Value} {hs1 : sx_H} (hI : M.2.2.2.2.2.2.1 pc = some (i, len, a, b)) (h5 : sx_kd i b = 5) (hq : sx_nt K0 tf cst i a pc st hs = some (pc1, st1, hs1)) (hc : 1 ≤ d ∧ sx_cats st1 ≤ 8) (h : sx_wp K0 ft df tf cst zs ks mt d M pc1 lv st1 hs1 dc ds P) : sx_wp K0 ft df tf cst zs ks mt d M pc lv st hs dc ds P := by
  obtain ⟨r, h, hP⟩ := h
  exact ⟨r, sx_ev.nat hI h5 hq hc h, hP⟩
theorem sx_wp.throw (hI : M.2.2.2.2.2.2.1 pc = some (i, len, a, b)) (h4 : sx_kd i b = 4) (hc : 6 ≤ d ∧ sx_cats st ≤ 8) (hP : P (.inr hs.length) (hs ++ [.inr (.inr a)]) (dc + 1) (ds + 6)) : sx_wp K0 ft df tf cst zs ks mt d M pc lv st hs dc ds P :=
  ⟨_, sx_ev.throw hI h4 hc, hP⟩
theorem sx_wp.call (hI : M.2.2.2.2.2.2.1 pc = some (i, len, a, b)) (h2 : sx_kd i b = 2) (hM : mt a = some M') (hc : sx_tot i M'.2.2.2.2.1 ≤ st.length ∧ sx_rcv K0 hs i b (st.take (sx_tot i M'.2.2.2.2.1)).reverse = true ∧ sx_cats (st.drop (sx_tot i M'.2.2.2.2.1)) ≤ 8 ∧ (lg_sl (st.take (sx_tot i M'.2.2.2.2.1)).reverse).length ≤ M'.2.2.1)
    (h : sx_wp K0 ft df tf cst zs ks mt d M' 0 (lv_args 0 (st.take (sx_tot i M'.2.2.2.2.1)).reverse) [] hs dc ds (fun v hs1 dc1 ds1 => match v with
      | .inl v => sx_wp K0 ft df tf cst zs ks mt (d + 1) M (pc + 3) lv (v.toList ++ st.drop (sx_tot i M'.2.2.2.2.1)) hs1 dc1 ds1 P
      | .inr x => ∃ j h9 : Nat, hs1[x]? = some (.inr (.inr j)) ∧ sx_find M.2.2.2.2.2.2.2 pc j = some h9 ∧ (K0 ≤ x ∧ sx_isV i = true) ∧ sx_wp K0 ft df tf cst zs ks mt (d + 1) M h9 lv [.ref x] hs1 dc1 ds1 P)) :
    sx_wp K0 ft df tf cst zs ks mt (d + 1) M pc lv st hs dc ds P := by
  obtain ⟨⟨v, hs1, dc1, ds1⟩, h, hP⟩ := h
  cases v with
  | inl v =>
    obtain ⟨r2, h5, hP⟩ := hP
    refine ⟨_, sx_ev.call hI h2 hM hc h rfl h5, ?_⟩
    dsimp only at hP ⊢
    rw [← Nat.add_assoc, ← Nat.add_assoc]
    exact hP
  | inr x =>
    obtain ⟨j, h9, hj, hf, hc9, r2, h5, hP⟩ := hP
    refine ⟨_, sx_ev.caught hI h2 hM hc h rfl hj hf hc9 h5, ?_⟩
    dsimp only at hP ⊢
    rw [← Nat.add_assoc, ← Nat.add_assoc]
    exact hP
end SXWP
