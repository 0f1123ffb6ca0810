/-! THE CLAIM OUT OF A RUN OF THE ABSTRACT MACHINE -/
theorem sx_sift {s s' : State} {L : List Loc} {k n k' n' : Nat} (h : s.sameButNew s' L k n) (hL : ∀ q ∈ L, s.heap.size ≤ q.base) (hk : k ≤ k') (hn : n ≤ n') : s.sameButNew s' [] k' n' := by
  obtain ⟨h1, h2, h3, h4, h5, h6⟩ := h
  refine ⟨h1, h2, Nat.le_trans h3 (Nat.add_le_add_left hk _), h4, Nat.le_trans h5 hn, fun a c hc => ?_⟩
  obtain ⟨c', g1, g2, g3, g4⟩ := h6 a c hc
  exact ⟨c', g1, g2, g3, fun i _ => g4 i (fun hm => Nat.not_lt.mpr (hL _ hm) (Array.getElem?_eq_some_iff.mp hc).1)⟩
theorem s_xw {A : Array Value} {s : State} (htsA : ∀ w ∈ sx_all, w.before A s = true) : ∀ w ∈ sx_xw, va_Nw w s := by
  intro w hw
  have h1 := htsA w (List.mem_filter.mp hw).1
  have hk := (List.mem_filter.mp hw).2
  unfold sx_xk at hk
  split at hk
  · exact va_Nw.of rfl h1
  · exact va_Nw.of rfl h1
  · exact va_AO.of h1
  · exact va_Nw.of rfl h1
  · cases hk
theorem s_ncs {A : Array Value} {s : State} (hgv : (Jvm.Cond.and given_1 narrow_1).before A s = true) : ∀ q ∈ s_nc, va_Nc q.1 q.2 s := by
  have h : s_nc.all (fun q => decide (Cond.not (.castable q.1 q.2) ∈ flatC (Jvm.Cond.and given_1 narrow_1))) = true := by decide +kernel
  intro q hq
  exact va_Nc.of (flat_of_before _ hgv _ (of_decide_eq_true (List.all_eq_true.mp h q hq)))
def lw_P (b : Addr) (xs : List Int32) (args : Array Value) (s : State) : Prop := args = #[.ref b] ∧ s.IntsAt b xs ∧ xs.length ≤ 1536 ∧ (Jvm.Cond.and given_1 narrow_1).before args s = true
def lw_Q (_ : Array Value) (s : State) (o : Outcome) (t : State) : Prop := o = .returned (some (.int 1)) ∧ Framed s o t [] 601024 7293034
def lw_Z (below : List Frame) (a : Array Value) (s : State) : State → Prop := fun t => ∃ o, t.status = .running ∧ Ended t below o ∧ lw_Q a s o t
/-- what is left to show: for every script the abstract machine runs the law to its end with 1, within the room -/
def s_Runs : Prop := ∀ (L : Nat) (xs : Nat → Int32), L ≤ 1536 → ∃ (n d : Nat) (hs1 : sx_H) (dc ds : Nat), d ≤ 1050 ∧ dc ≤ 601024 ∧ ds ≤ 7293034 ∧ sx_run 5 s_ft s_df s_tf s_cst s_zs s_ks s_mt n d sM_law 0 [(0, .ref 0)] [] (s_h0 L xs) = some (.inl (some (.int 1)), hs1, dc, ds)
set_option maxHeartbeats 4000000 in
theorem s_go (hS : s_Runs) {p : Program} {e : Env} {s : State} {m : MethodId} {below : List Frame} {meth : Method} {c : Code} {l : Launch} (hfl : l.flags = pinnedFlags ++ [noTraceFlag]) {b L : Nat} {xs : Nat → Int32} (hL : L ≤ 1536) (hx : p.tables.exec = Jvm.exec) (hb : c.code = code) (hr : meth.sig.returnType = ret) (hml : c.maxLocals = maxLocals) (hxt : c.exceptionTable.toList = []) (hown : s.vm.findClass x.cls = some m.cls)
    (htsA : ∀ w ∈ sx_all, w.before #[Value.ref b] s = true) (hX : va_X b L xs s s.heap) (hbl : b < s.heap.size) (hlk : meth.locks = false) (hgv : (Jvm.Cond.and given_1 narrow_1).before #[Value.ref b] s = true) : W p l e room_1 s m #[Value.ref b] below meth c s.heap [] 0 0 (lw_Z below #[Value.ref b] s) (entryFrame m ([Value.ref b] : List Value).toArray maxLocals) := by
  obtain ⟨n, d, hs1, dc, ds, hd, hdc, hds, h⟩ := hS L xs hL
  obtain ⟨D, tys, t1, t2, t3, mi, hA, hK, htf, hnt, hR⟩ := s_begin htsA hX hbl hgv
  have hl := lv_entry (([Value.ref 0] : List Value).map (sx_up (sx_ua b t1 t2 t3 mi s.heap.size))) (n := maxLocals) (by rw [sx_up_words]; decide)
  have hent := lg_entry_eq m (([Value.ref 0] : List Value).map (sx_up (sx_ua b t1 t2 t3 mi s.heap.size))) maxLocals
  generalize (lg_sl (([Value.ref 0] : List Value).map (sx_up (sx_ua b t1 t2 t3 mi s.heap.size))) ++ List.replicate (maxLocals - (lg_sl (([Value.ref 0] : List Value).map (sx_up (sx_ua b t1 t2 t3 mi s.heap.size)))).length) Slot.unset).toArray = ls at hl hent
  rw [← sx_up_args] at hl
  have hw := sx_sound (l := l) hfl hA sx_tw_good sx_xw_kind htf hnt s_cst0 s_cst1 (by decide) s_hmt n d sM_law 0 [(0, .ref 0)] [] (s_h0 L xs) _ hs1 dc ds sW_law h (p := p) (e := e) (R := room_1) (s := s) (m := m) (args := #[Value.ref b]) (below := below) (meth := meth) (c := c) (H := s.heap) (locs := []) (cells := 0) (slots := 0) (ls := ls) hx hb hml (by rw [hxt]; rfl) hown (fun w hw => htsA w (List.mem_filter.mp hw).1) (s_xw htsA) (s_ncs hgv) (sx_E.of hA hR) hK hr hlk (fun h => by cases h) hl hR (fun q h => by cases h) (Nat.le_trans hd (by decide)) (Nat.le_trans (Nat.mul_le_mul_right 80 hd) (by decide)) (by rw [Nat.zero_add]; exact hdc) (by rw [Nat.zero_add]; exact hds)
  intro T hT X
  obtain ⟨t, a1, o, b1, b2, ⟨b3, -⟩, Ls, ⟨f1, f2, f3⟩, hLs⟩ := hw T hT X
  have hent' : entryFrame m ([Value.ref b] : List Value).toArray maxLocals = F0 m 0 ls [] := hent
  refine ⟨t, by rw [hent']; exact a1, o, b1, b2, b3, f1, f2, sx_sift f3 hLs ?_ ?_⟩
  · rw [Nat.zero_add]; exact hdc
  · rw [Nat.zero_add]; exact hds
set_option maxHeartbeats 4000000 in
theorem lw_walk (hS : s_Runs) (l : Launch) (hfl : l.flags = pinnedFlags ++ [noTraceFlag]) (b : Addr) (xs : List Int32) : MetFree l x (headSpec (Jvm.Cond.code x code maxLocals ret :: tables_1) room_1) (lw_P b xs) (fun _ _ _ _ _ => True) lw_Q := by
  refine MetFree.of_bodyS (code := code) (maxLocals := maxLocals) (ret := ret) (by decide) ?_ ?_
  · intro args s m h hn
    obtain ⟨meth, c, h1, h2, h3, h4, h5, h6, -, -⟩ := Cond.code_spec hn (atoms_spec (ws := Jvm.Cond.code x code maxLocals ret :: tables_1) h _ List.mem_cons_self)
    exact ⟨meth, c, h1, h2, h3, h4, h5, h6⟩
  · intro p e s m args below meth c s₁ B hml0 hP _
    obtain ⟨rfl, hx, hbd, hgv⟩ := hP
    obtain ⟨scr, harrAt, hlist, hof, hsmall⟩ := hx
    obtain ⟨hcb, hkn, -, -⟩ := State.arrayAt?_spec harrAt
    have hown : s.vm.findClass x.cls = some m.cls := findClass_of_methodNamed B.named
    have hts0 : ∀ c ∈ (Jvm.Cond.code x code maxLocals ret :: tables_1), c.before #[Value.ref b] s = true := atoms_spec (ws := Jvm.Cond.code x code maxLocals ret :: tables_1) B.pre
    have hts : ∀ w ∈ lw_tbl, w.before #[Value.ref b] s = true := k2_hts_sels lw_privs (fun w hw => hts0 w (List.mem_cons_of_mem _ hw)) lw_privs_ok
    have htsA : ∀ w ∈ sx_all, w.before #[Value.ref b] s = true := fun w hw => (List.mem_cons.mp hw).elim (fun h => h ▸ hts0 _ List.mem_cons_self) (fun h => (List.mem_append.mp h).elim (sx_selW_ok (fun w hw => hts0 w (List.mem_cons_of_mem _ hw)) w) (hts w))
    have h0 := B.noHandlers (hts0 _ List.mem_cons_self)
    have hxt : c.exceptionTable.toList = [] := List.eq_nil_of_length_eq_zero (by simpa [Array.isEmpty] using h0)
    have hml : c.maxLocals = maxLocals := B.maxLocals_eq (hts0 _ List.mem_cons_self)
    have X₀ : Stand p l e room_1 s m #[Value.ref b] below meth c s₁ [] 0 0 := Stand.of_body B
    have hh0 : s₁.heap = s.heap := by rw [B.state]; rfl
    have hsz : scr.slots.size = xs.length := by rw [← Array.length_toList, hlist, List.length_map]
    have hval : ∀ j : Nat, j < xs.length → scr.slots[j]? = some (.int (xs.getD j 0)) := fun j hj => by
      rw [← Array.getElem?_toList, hlist]
      simp [hj]
    have hbl : b < s.heap.size := (Array.getElem?_eq_some_iff.mp hcb).1
    have hX : va_X b xs.length (fun j => xs.getD j 0) s s.heap := ⟨scr, hcb, hof, hkn, hsz, hval⟩
    have K : W p l e room_1 s m #[Value.ref b] below meth c s₁.heap [] 0 0 (lw_Z below #[Value.ref b] s) (entryFrame m ([Value.ref b] : List Value).toArray maxLocals) := by
      rw [hh0]
      exact s_go hS hfl hbd B.exec B.bytes B.returns hml hxt hown htsA hX hbl B.notSynchronized hgv
    obtain ⟨t, a1, o, b1, b2, b3⟩ := K s₁ rfl X₀
    exact ⟨t, o, a1, b1, b2, b3⟩
