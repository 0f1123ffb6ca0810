/-! THE ABSTRACT MACHINE IS SOUND: what it answers, the machine does (methods that return) -/
theorem sx_end_inv {ret : Option FieldType} {i : Instr} {len : Nat} {st : List Value} {hs hs1 : sx_H} {v : Option Value} {dc ds : Nat} (h : sx_end ret i len st hs = some (v, hs1, dc, ds)) : len = 1 ∧ hs1 = hs ∧ dc = 0 ∧ ds = 0 ∧ ((i = .ireturn ∧ ∃ (ty : FieldType) (x : Int32), ret = some ty ∧ st = [.int x] ∧ v = some (.int x) ∧ sx_fit ty (.int x) = true) ∨ (i = .lreturn ∧ ret = some .long ∧ ∃ x : Int64, st = [.long x] ∧ v = some (.long x)) ∨ (i = .areturn ∧ ∃ ty : FieldType, ret = some ty ∧ sx_isRT ty = true ∧ ((∃ x : Nat, st = [.ref x] ∧ v = some (.ref x)) ∨ (st = [.null] ∧ v = some .null))) ∨ (i = .return_ ∧ ret = none ∧ st = [] ∧ v = none)) := by
  unfold sx_end at h
  split at h
  · rename_i ty x
    by_cases hc : sx_fit ty (.int x) = true ∧ len = 1
    · rw [if_pos hc] at h
      cases h
      exact ⟨hc.2, rfl, rfl, rfl, Or.inl ⟨rfl, ty, x, rfl, rfl, rfl, hc.1⟩⟩
    · rw [if_neg hc] at h
      cases h
  · rename_i x
    by_cases hc : len = 1
    · rw [if_pos hc] at h
      cases h
      exact ⟨hc, rfl, rfl, rfl, Or.inr (Or.inl ⟨rfl, rfl, x, rfl, rfl⟩)⟩
    · rw [if_neg hc] at h
      cases h
  · rename_i ty x
    by_cases hc : sx_isRT ty = true ∧ len = 1
    · rw [if_pos hc] at h
      cases h
      exact ⟨hc.2, rfl, rfl, rfl, Or.inr (Or.inr (Or.inl ⟨rfl, ty, rfl, hc.1, Or.inl ⟨x, rfl, rfl⟩⟩))⟩
    · rw [if_neg hc] at h
      cases h
  · rename_i ty
    by_cases hc : sx_isRT ty = true ∧ len = 1
    · rw [if_pos hc] at h
      cases h
      exact ⟨hc.2, rfl, rfl, rfl, Or.inr (Or.inr (Or.inl ⟨rfl, ty, rfl, hc.1, Or.inr ⟨rfl, rfl⟩⟩))⟩
    · rw [if_neg hc] at h
      cases h
  · by_cases hc : len = 1
    · rw [if_pos hc] at h
      cases h
      exact ⟨hc, rfl, rfl, rfl, Or.inr (Or.inr (Or.inr ⟨rfl, rfl, rfl, rfl⟩))⟩
    · rw [if_neg hc] at h
      cases h
  · cases h
theorem sx_isRT_inv {ty : FieldType} (h : sx_isRT ty = true) : (∃ n, ty = .object n) ∨ ∃ t, ty = .array t := by
  unfold sx_isRT at h
  split at h
  · exact Or.inl ⟨_, rfl⟩
  · exact Or.inr ⟨_, rfl⟩
  · cases h
theorem sx_goodIn {Ts : List Cond} (hG : ∀ w ∈ Ts, goodWord w = true) (ws : List Cond) (h : ∀ w ∈ ws, w ∈ Ts) : GoodIn Ts ws := fun w hw => ⟨h w hw, good_of_word (hG w (h w hw))⟩
theorem sx_take {st vals : List Value} {k : Nat} (h : (st.take k).reverse = vals) : st = vals.reverse ++ st.drop k := by
  rw [← h, List.reverse_reverse, List.take_append_drop]
theorem sx_rcvV {K0 : Nat} {hs : sx_H} {idx b : Nat} {vals : List Value} (h : sx_rcv K0 hs (.invokevirtual idx) b vals = true) : ∃ (x : Nat) (As fs : List Value), vals = .ref x :: As ∧ hs[x]? = some (.inr (.inl (b, fs))) ∧ K0 ≤ x := by
  unfold sx_rcv at h
  split at h
  · rename_i hc
    cases hc
  · rename_i x As hi
    split at h
    · rename_i o ho
      obtain ⟨ci, fs⟩ := o
      simp only [Bool.and_eq_true, beq_iff_eq, decide_eq_true_eq] at h
      obtain ⟨rfl, hx⟩ := h
      exact ⟨x, As, fs, rfl, sx_obj_inv ho, hx⟩
    · cases h
  · rename_i hc
    cases hc
  · cases h
theorem sx_rcvI {K0 : Nat} {hs : sx_H} {idx b : Nat} {vals : List Value} (h : sx_rcv K0 hs (.invokespecial idx) b vals = true) : ∃ (x : Nat) (As : List Value), vals = .ref x :: As := by
  unfold sx_rcv at h
  split at h
  · rename_i hc
    cases hc
  · rename_i hc
    cases hc
  · exact ⟨_, _, rfl⟩
  · cases h
section SXSOUND
variable {l : Launch} {D : va_G} {cl : List vw_C} {tys : List (ClassId × FieldType)} {ex : List String} {zs : List (String × String × String × Value)} {K0 base : Nat} {ua : Nat → Nat} {Ts xw : List Cond} {ft : Nat → Nat → FieldType} {df : Nat → List Value} {tf : Nat → FieldType} {nt : Nat} {cst : Nat → Nat → Bool} {ks : Nat → Int32} {mt : Nat → Option sx_M} {Kw : Nat}
/-- a method's contract out of its body's walk -/
theorem sx_met {M : sx_M} {vals : List Value} {hs hs1 : sx_H} {v : Option Value} {dc ds d : Nat} (hpl : plainName M.1.cls = true) (hwrd : (lg_sl vals).length ≤ M.2.2.1) (hI : M.2.2.2.2.2.1 = true → M.1.name = "<init>")
    (body : ∀ {p : Program} {e : Env} {R : Room} {s : State} {m : MethodId} {args : Array Value} {below : List Frame} {meth : Method} {c : Code} {H : Heap} {locs : List Loc} {cells slots : Nat} {ls : Array Slot}, p.tables.exec = Jvm.exec → c.code = M.2.1 → c.maxLocals = M.2.2.1 → s.vm.findClass M.1.cls = some m.cls → (∀ w ∈ Ts, w.before args s = true) → (∀ w ∈ xw, va_Nw w s) → va_K D cl tys s → meth.sig.returnType = M.2.2.2.1 → meth.locks = false → (M.2.2.2.2.2.1 = true → meth.name = "<init>") → lv_has ls M.2.2.1 (sx_upL ua (lv_args 0 vals)) → sx_R D cl tys ex zs K0 base ua s hs H → (∀ q ∈ locs, base ≤ q.base) → d ≤ R.frames → d * Kw ≤ R.locals → cells + dc ≤ R.cells → slots + ds ≤ R.slots →
      W p l e R s m args below meth c H locs cells slots (MQ below (sx_Qc D cl tys ex zs K0 base ua v hs1) args s (cells + dc) (slots + ds) (fun q => base ≤ q)) (F0 m 0 ls (sx_upS ua []))) :
    Met l M.1 (Cond.code M.1 M.2.1 M.2.2.1 M.2.2.2.1 :: Ts) { frames := d, cells := dc, slots := ds, locals := d * Kw } (sx_Pc D cl tys ex zs K0 base ua xw vals hs) (sx_Qc D cl tys ex zs K0 base ua v hs1) dc ds (fun q => base ≤ q) := by
  refine Met.ofW (cc := M.2.1) (maxL := M.2.2.1) (ret := M.2.2.2.1) hpl rfl ?_
  intro p e s m args below meth c s₁ B hml hv
  obtain ⟨rfl, hR, hK, hX⟩ := hv
  have hts := atoms_spec (ws := Cond.code M.1 M.2.1 M.2.2.1 M.2.2.2.1 :: Ts) B.pre
  have hl := lv_entry (vals.map (sx_up ua)) (n := M.2.2.1) (by rw [sx_up_words]; exact hwrd)
  rw [lg_entry_eq]
  generalize (lg_sl (vals.map (sx_up ua)) ++ List.replicate (M.2.2.1 - (lg_sl (vals.map (sx_up ua))).length) Slot.unset).toArray = ls at hl ⊢
  rw [← sx_up_args] at hl
  have hb := body (R := { frames := d, cells := dc, slots := ds, locals := d * Kw }) (locs := []) (cells := 0) (slots := 0) (below := below) (e := e) B.exec B.bytes hml (findClass_of_methodNamed B.named) (fun w hw => hts w (List.mem_cons_of_mem _ hw)) hX hK B.returns B.notSynchronized (fun h => (name_of_methodNamed B.named B.method).1.trans (hI h)) hl hR (fun q h => by cases h) (Nat.le_refl _) (Nat.le_refl _) (by dsimp only; omega) (by dsimp only; omega)
  rw [Nat.zero_add, Nat.zero_add] at hb
  exact hb
set_option maxHeartbeats 4000000 in
theorem sx_sound (hA : sx_A K0 base ua) (hG : ∀ w ∈ Ts, goodWord w = true) (hxk : ∀ w ∈ xw, sx_xk w = true) (htf : ∀ t q, tys[t]? = some q → q.2 = tf t) (hnt : ∀ t, t < nt → ∃ cT, tys[t]? = some (cT, tf t)) (hc0 : ∀ t, cst 0 t = true → ∃ E, tf t = .object E) (hc1 : ∀ ci t, cst (ci + 1) t = true → ∃ (r : vw_C) (E : String), cl[ci]? = some r ∧ tf t = .object E ∧ (r.1 = E ∨ Cond.castable r.1 E ∈ xw)) (hKw : 20 ≤ Kw) (hmt : ∀ k M, mt k = some M → sx_okM Ts xw cl ft df tf nt zs ks mt Kw M) :
    ∀ (n d : Nat) (M : sx_M) (pc : Nat) (lv : List (Nat × Value)) (st : List Value) (hs : sx_H) (v : Option Value) (hs1 : sx_H) (dc ds : Nat), sx_okM Ts xw cl ft df tf nt zs ks mt Kw M → sx_run K0 ft df tf cst zs ks mt n d M pc lv st hs = some (v, hs1, dc, ds) →
    ∀ {p : Program} {e : Env} {R : Room} {s : State} {m : MethodId} {args : Array Value} {below : List Frame} {meth : Method} {c : Code} {H : Heap} {locs : List Loc} {cells slots : Nat} {ls : Array Slot}, p.tables.exec = Jvm.exec → c.code = M.2.1 → c.maxLocals = M.2.2.1 → s.vm.findClass M.1.cls = some m.cls → (∀ w ∈ Ts, w.before args s = true) → (∀ w ∈ xw, va_Nw w s) → va_K D cl tys s → meth.sig.returnType = M.2.2.2.1 → meth.locks = false → (M.2.2.2.2.2.1 = true → meth.name = "<init>") → lv_has ls M.2.2.1 (sx_upL ua lv) → sx_R D cl tys ex zs K0 base ua s hs H → (∀ q ∈ locs, base ≤ q.base) → d ≤ R.frames → d * Kw ≤ R.locals → cells + dc ≤ R.cells → slots + ds ≤ R.slots →
      W p l e R s m args below meth c H locs cells slots (MQ below (sx_Qc D cl tys ex zs K0 base ua v hs1) args s (cells + dc) (slots + ds) (fun q => base ≤ q)) (F0 m pc ls (sx_upS ua st)) := by
  intro n
  induction n with
  | zero =>
    intro d M pc lv st hs v hs1 dc ds hok h
    cases h
  | succ n ih =>
    intro d M pc lv st hs v hs1 dc ds hok h p e R s m args below meth c H locs cells slots ls hx hb hml hown hts hxw hK hr hlk hin hl hR hL hfr hlo hcc hss
    obtain ⟨hpl, hcd, hini, hnm, hkw, hI, hcode⟩ := id hok
    unfold sx_run at h
    obtain ⟨⟨i, len, a, b⟩, h1, h⟩ := Option.bind_eq_some_iff.mp h
    obtain ⟨hd, hoI, hoJ⟩ := hcode pc i len a b h1
    dsimp only at h
    by_cases k0 : sx_kd i b = 0
    · rw [if_pos k0] at h
      obtain ⟨⟨F, hs2, dc1, ds1⟩, h2, h⟩ := Option.bind_eq_some_iff.mp h
      obtain ⟨⟨v', hs', dc2, ds2⟩, h3, h4⟩ := Option.bind_eq_some_iff.mp h
      cases h4
      dsimp only at h3 hcc hss ⊢
      refine sx_hs_ok hx hb hA hown hts hxw hK htf hnt hc0 hc1 hin hd hoI hl hR hL h2 (by omega) (by omega) (fun ls' H1 locs1 hl' hR1 hL1 => ?_)
      have hg := ih d M F.1 F.2.1 F.2.2 hs2 _ _ dc2 ds2 hok h3 (e := e) (R := R) (below := below) (cells := cells + dc1) (slots := slots + ds1) hx hb hml hown hts hxw hK hr hlk hin hl' hR1 hL1 hfr hlo (by omega) (by omega)
      rw [Nat.add_assoc, Nat.add_assoc] at hg
      exact hg
    · rw [if_neg k0] at h
      by_cases k1 : sx_kd i b = 1
      · rw [if_pos k1] at h
        obtain ⟨rfl, rfl, rfl, rfl, hE⟩ := sx_end_inv h
        rcases hE with ⟨rfl, ty, x, h5, rfl, rfl, hf⟩ | ⟨rfl, h5, x, rfl, rfl⟩ | ⟨rfl, ty, h5, hrt, ⟨x, rfl, rfl⟩ | ⟨rfl, rfl⟩⟩ | ⟨rfl, h5, rfl, rfl⟩
        · exact W.zret (v := x) hx hb (hr.trans h5) (sx_fit_ok hf).1 (fun t ht hW => ⟨rfl, by rw [ht]; exact hR.moved hW.alike⟩) hL hd hlk
        · exact W.lret (v := x) hx hb (hr.trans h5) (fun t ht hW => ⟨rfl, by rw [ht]; exact hR.moved hW.alike⟩) hL hd hlk
        · exact W.aret (v := .ref (ua x)) hx hb (hr.trans h5) (sx_isRT_inv hrt) (Or.inr ⟨_, rfl⟩) (fun t ht hW => ⟨rfl, by rw [ht]; exact hR.moved hW.alike⟩) hL hd hlk
        · exact W.aret (v := .null) hx hb (hr.trans h5) (sx_isRT_inv hrt) (Or.inl rfl) (fun t ht hW => ⟨rfl, by rw [ht]; exact hR.moved hW.alike⟩) hL hd hlk
        · exact W.vret hx hb (hr.trans h5) (fun t ht hW => ⟨rfl, by rw [ht]; exact hR.moved hW.alike⟩) hL hd hlk
      · rw [if_neg k1] at h
        by_cases k3 : sx_kd i b = 3
        · rw [if_pos k3] at h
          obtain ⟨⟨x, r⟩, h2, h9⟩ := Option.bind_eq_some_iff.mp h
          clear h
          dsimp only at h9
          by_cases hc : 1 ≤ d ∧ sx_cats r ≤ 8
          · rw [if_pos hc] at h9
            have e1 := sx_popR_inv h2
            subst e1
            cases i with
            | invokespecial idx =>
              have hb2 : b = 2 := by
                by_cases z : b = 2
                · exact z
                · simp only [sx_kd, if_neg z] at k3
                  exact absurd k3 (by decide)
              obtain ⟨rfl, hJ, -⟩ := hoJ
              obtain ⟨j1, j2, j3⟩ := hJ hb2
              have hd1 : 1 * Kw ≤ d * Kw := Nat.mul_le_mul_right Kw hc.1
              refine W.objInit hx hb hown (hts _ j1) (hts _ j2) (hts _ j3) rfl (hl.1.trans hml.symm) (a := ua x) (rest := sx_upS ua r) rfl hd (Nat.le_trans hc.1 hfr) ?_ ?_
              · show 2 * 0 + _ + 12 ≤ _
                rw [sx_up_cats]
                have := hc.2
                omega
              · exact ih d M (pc + 3) lv r hs _ _ _ _ hok h9 hx hb hml hown hts hxw hK hr hlk hin hl hR hL hfr hlo hcc hss
            | _ => simp only [sx_kd] at k3; exact absurd k3 (by decide)
          · rw [if_neg hc] at h9
            cases h9
        · rw [if_neg k3] at h
          cases d with
          | zero => cases h
          | succ d' =>
            dsimp only at h
            obtain ⟨M', hM', h⟩ := Option.bind_eq_some_iff.mp h
            have hok' := hmt _ _ hM'
            obtain ⟨y', cc', mL', rt', na', iI', cd'⟩ := M'
            dsimp only at h
            by_cases hc : sx_tot i na' ≤ st.length ∧ sx_rcv K0 hs i b (st.take (sx_tot i na')).reverse = true ∧ sx_cats (st.drop (sx_tot i na')) ≤ 8 ∧ (lg_sl (st.take (sx_tot i na')).reverse).length ≤ mL'
            · rw [if_pos hc] at h
              obtain ⟨⟨v1, hs2, dc1, ds1⟩, h2, h⟩ := Option.bind_eq_some_iff.mp h
              obtain ⟨⟨v2, hs3, dc2, ds2⟩, h3, h4⟩ := Option.bind_eq_some_iff.mp h
              cases h4
              dsimp only at h2 h3 hcc hss ⊢
              obtain ⟨hc1', hc2, hc3, hc4⟩ := hc
              obtain ⟨hpl', hcd', hini', hnm', hkw', hI', -⟩ := id hok'
              dsimp only at hpl' hcd' hini' hnm' hkw' hI'
              generalize hvals : (st.take (sx_tot i na')).reverse = vals at h2 hc2 hc4
              generalize hrest : st.drop (sx_tot i na') = rest at h3 hc3
              have hstk : st = vals.reverse ++ rest := by rw [← hrest]; exact sx_take hvals
              have hlen : vals.length = sx_tot i na' := by rw [← hvals, List.length_reverse, List.length_take]; omega
              have hMet := sx_met (l := l) (D := D) (tys := tys) (ex := ex) (base := base) (ua := ua) (M := (y', cc', mL', rt', na', iI', cd')) (d := d') (Kw := Kw) hpl' hc4 hI' (ih d' _ 0 _ [] hs v1 hs2 dc1 ds1 hok' h2)
              dsimp only at hMet
              have hroom : d' + 1 ≤ R.frames ∧ 8 + (mL' + 11) + d' * Kw ≤ R.locals := by
                refine ⟨hfr, ?_⟩
                have h7 : (d' + 1) * Kw = d' * Kw + Kw := Nat.succ_mul d' Kw
                omega
              have hW8 : 2 * (F0 m pc ls (sx_upS ua st)).monitorRoom + ((sx_upS ua rest).map fun v => v.category).sum ≤ 8 := by
                show 2 * 0 + _ ≤ 8
                rw [sx_up_cats]
                omega
              have hgo : ∀ (H1 : Heap) (locs1 : List Loc), sx_R D cl tys ex zs K0 base ua s hs2 H1 → (∀ q ∈ locs1, base ≤ q.base) → W p l e R s m args below meth c H1 locs1 (cells + dc1) (slots + ds1) (MQ below (sx_Qc D cl tys ex zs K0 base ua v2 hs3) args s (cells + (dc1 + dc2)) (slots + (ds1 + ds2)) (fun q => base ≤ q)) (F0 m (pc + 3) ls (sx_upS ua (v1.toList ++ rest))) := by
                intro H1 locs1 hR1 hL1
                have hg := ih (d' + 1) M (pc + 3) lv (v1.toList ++ rest) hs2 _ _ dc2 ds2 hok h3 (e := e) (R := R) (below := below) (cells := cells + dc1) (slots := slots + ds1) hx hb hml hown hts hxw hK hr hlk hin hl hR1 hL1 hfr hlo (by omega) (by omega)
                rw [Nat.add_assoc, Nat.add_assoc] at hg
                exact hg
              cases i with
              | invokevirtual idx =>
                obtain ⟨rfl, hJ⟩ := hoJ
                obtain ⟨j1, j2, j3, rr, hrr, hrn⟩ := hJ _ hM'
                dsimp only at j1 j2 j3 hrn
                obtain ⟨x, As, fs, rfl, hxo, hxK⟩ := sx_rcvV hc2
                refine sx_after (va_runV (C := y'.cls) (b := ua x) (As := As.map (sx_up ua)) (n := na') ⟨hx, hb, hml, hown, hts⟩ hMet (cwV na' hts (sx_goodIn hG _ ?_) rfl rfl rfl ⟨rfl, hnm'⟩ hroom) ⟨sx_blind hxk, ?_, sx_pre hxk hK hxw hR⟩ rfl ?_ hl.1 ?_ hW8 hd ⟨by omega, by omega⟩) hL hgo
                · intro w hw
                  simp only [wsV, List.mem_append, List.mem_cons, List.not_mem_nil, or_false] at hw
                  rcases hw with (rfl | rfl | rfl | rfl) | rfl | hw
                  · exact j1
                  · exact j2
                  · exact j3
                  · exact hini'
                  · exact hcd'
                  · exact hw
                · have hv := va_recv (ci := b) (q0 := 0) hK (sx_one (D := D) (cl := cl) (a := ua x) (e := .inr (b, fs.map (sx_up ua))) (hR.2.2.1 x _ hxo hxK)) hrr rfl
                  rw [hrn] at hv
                  exact hv
                · rw [List.length_map]
                  have : As.length + 1 = na' + 1 := hlen
                  omega
                · show sx_upS ua st = _
                  rw [hstk]
                  simp [sx_upS, List.map_append, List.map_reverse, sx_up]
              | invokestatic idx =>
                obtain ⟨rfl, hJ⟩ := hoJ
                obtain ⟨j1, j2⟩ := hJ _ hM'
                dsimp only at j1 j2
                refine sx_after (va_runS (As := vals.map (sx_up ua)) (n := na') ⟨hx, hb, hml, hown, hts⟩ hMet (va_cwS na' hts (sx_goodIn hG _ ?_) rfl rfl rfl hnm' hroom) ⟨sx_blind hxk, sx_pre hxk hK hxw hR⟩ rfl ?_ hl.1 ?_ hW8 hd ⟨by omega, by omega⟩) hL hgo
                · intro w hw
                  simp only [va_wsS, List.mem_append, List.mem_cons, List.not_mem_nil, or_false] at hw
                  rcases hw with (rfl | rfl | rfl) | rfl | hw
                  · exact j1
                  · exact j2
                  · exact hini'
                  · exact hcd'
                  · exact hw
                · rw [List.length_map]
                  exact hlen
                · show sx_upS ua st = _
                  rw [hstk]
                  simp [sx_upS, List.map_append, List.map_reverse]
              | invokespecial idx =>
                have hb2 : b ≠ 2 := fun z => k3 (by simp only [sx_kd, if_pos z])
                obtain ⟨rfl, -, hJ⟩ := hoJ
                obtain ⟨j2, j3, j4, j1⟩ := hJ hb2 _ hM'
                dsimp only at j1 j2 j3 j4
                subst j4
                obtain ⟨x, As, rfl⟩ := sx_rcvI hc2
                have hgi : GoodIn Ts (Cond.code y' cc' mL' none :: Ts) := sx_goodIn hG _ (fun w hw => (List.mem_cons.mp hw).elim (fun z => z ▸ hcd') id)
                have hAl : (As.map (sx_up ua)).length = na' := by
                  rw [List.length_map]
                  have : As.length + 1 = na' + 1 := hlen
                  omega
                have hsk : sx_upS ua st = (As.map (sx_up ua)).reverse ++ .ref (ua x) :: sx_upS ua rest := by
                  rw [hstk]
                  simp [sx_upS, List.map_append, List.map_reverse, sx_up]
                rcases j1 with j1 | ⟨host, j1⟩
                · exact sx_after (va_runI (b := ua x) (As := As.map (sx_up ua)) (n := na') ⟨hx, hb, hml, hown, hts⟩ hMet (cwI na' hts hgi rfl rfl rfl (hts _ hini') (hts _ j1) (hts _ j2) j3 hnm' hroom) ⟨sx_blind hxk, sx_pre hxk hK hxw hR⟩ rfl hAl hl.1 hsk hW8 hd ⟨by omega, by omega⟩) hL hgo
                · exact sx_after (va_runIN (b := ua x) (As := As.map (sx_up ua)) (n := na') (host := host) ⟨hx, hb, hml, hown, hts⟩ hMet ⟨va_cnB na' hts hgi rfl rfl rfl (hxw _ j1) (hts _ hini') hnm' hroom, j3, hts _ j2⟩ ⟨sx_blind hxk, sx_pre hxk hK hxw hR⟩ rfl hAl hl.1 hsk hW8 hd ⟨by omega, by omega⟩) hL hgo
              | _ => first | exact absurd rfl k0 | exact absurd rfl k1
            · rw [if_neg hc] at h
              cases h
end SXSOUND
