/-! THE ABSTRACT MACHINE IS SOUND: what it answers, the machine does (methods that return) -/
theorem sx_end_inv {ret : Option FieldType} {i : Instr} {len : Nat} {st : List Value} {hs hs1 : sx_H} {v : Option Value ⊕ Nat} {dc ds : Nat} (h : sx_end ret i len st hs = some (v, hs1, dc, ds)) : len = 1 ∧ hs1 = hs ∧ dc = 0 ∧ ds = 0 ∧ ((i = .ireturn ∧ ∃ (ty : FieldType) (x : Int32), ret = some ty ∧ st = [.int x] ∧ v = .inl (some (.int x)) ∧ sx_fit ty (.int x) = true) ∨ (i = .lreturn ∧ ret = some .long ∧ ∃ x : Int64, st = [.long x] ∧ v = .inl (some (.long x))) ∨ (i = .areturn ∧ ∃ ty : FieldType, ret = some ty ∧ sx_isRT ty = true ∧ ((∃ x : Nat, st = [.ref x] ∧ v = .inl (some (.ref x))) ∨ (st = [.null] ∧ v = .inl (some .null)))) ∨ (i = .return_ ∧ ret = none ∧ st = [] ∧ v = .inl none)) := by
  unfold sx_end at h
  split at h
  · rename_i ty x
    by_cases hc : sx_fit ty (.int x) = true ∧ len = 1
    · rw [if_pos hc] at h
      cases h
      exact ⟨hc.2, rfl, rfl, rfl, Or.inl ⟨rfl, ty, x, rfl, rfl, rfl, hc.1⟩⟩
    · rw [if_neg hc] at h
      cases h
  · rename_i x
    by_cases hc : len = 1
    · rw [if_pos hc] at h
      cases h
      exact ⟨hc, rfl, rfl, rfl, Or.inr (Or.inl ⟨rfl, rfl, x, rfl, rfl⟩)⟩
    · rw [if_neg hc] at h
      cases h
  · rename_i ty x
    by_cases hc : sx_isRT ty = true ∧ len = 1
    · rw [if_pos hc] at h
      cases h
      exact ⟨hc.2, rfl, rfl, rfl, Or.inr (Or.inr (Or.inl ⟨rfl, ty, rfl, hc.1, Or.inl ⟨x, rfl, rfl⟩⟩))⟩
    · rw [if_neg hc] at h
      cases h
  · rename_i ty
    by_cases hc : sx_isRT ty = true ∧ len = 1
    · rw [if_pos hc] at h
      cases h
      exact ⟨hc.2, rfl, rfl, rfl, Or.inr (Or.inr (Or.inl ⟨rfl, ty, rfl, hc.1, Or.inr ⟨rfl, rfl⟩⟩))⟩
    · rw [if_neg hc] at h
      cases h
  · by_cases hc : len = 1
    · rw [if_pos hc] at h
      cases h
      exact ⟨hc, rfl, rfl, rfl, Or.inr (Or.inr (Or.inr ⟨rfl, rfl, rfl, rfl⟩))⟩
    · rw [if_neg hc] at h
      cases h
  · cases h
theorem sx_isRT_inv {ty : FieldType} (h : sx_isRT ty = true) : (∃ n, ty = .object n) ∨ ∃ t, ty = .array t := by
  unfold sx_isRT at h
  split at h
  · exact Or.inl ⟨_, rfl⟩
  · exact Or.inr ⟨_, rfl⟩
  · cases h
theorem sx_goodIn {Ts : List Cond} (hG : ∀ w ∈ Ts, goodWord w = true) (ws : List Cond) (h : ∀ w ∈ ws, w ∈ Ts) : GoodIn Ts ws := fun w hw => ⟨h w hw, good_of_word (hG w (h w hw))⟩
theorem sx_take {st vals : List Value} {k : Nat} (h : (st.take k).reverse = vals) : st = vals.reverse ++ st.drop k := by
  rw [← h, List.reverse_reverse, List.take_append_drop]
theorem sx_rcvV {K0 : Nat} {hs : sx_H} {idx b : Nat} {vals : List Value} (h : sx_rcv K0 hs (.invokevirtual idx) b vals = true) : ∃ (x : Nat) (As fs : List Value), vals = .ref x :: As ∧ hs[x]? = some (.inr (.inl (b, fs))) ∧ K0 ≤ x := by
  unfold sx_rcv at h
  split at h
  · rename_i hc
    cases hc
  · rename_i x As hi
    split at h
    · rename_i o ho
      obtain ⟨ci, fs⟩ := o
      simp only [Bool.and_eq_true, beq_iff_eq, decide_eq_true_eq] at h
      obtain ⟨rfl, hx⟩ := h
      exact ⟨x, As, fs, rfl, sx_obj_inv ho, hx⟩
    · cases h
  · rename_i hc
    cases hc
  · cases h
theorem sx_rcvI {K0 : Nat} {hs : sx_H} {idx b : Nat} {vals : List Value} (h : sx_rcv K0 hs (.invokespecial idx) b vals = true) : ∃ (x : Nat) (As : List Value), vals = .ref x :: As := by
  unfold sx_rcv at h
  split at h
  · rename_i hc
    cases hc
  · rename_i hc
    cases hc
  · exact ⟨_, _, rfl⟩
  · cases h
/-- the handlers that the abstract machine finds are those of the machine -/
theorem sx_hit_of {pl : Platform} (hpl : pl.magicAccessors = ({} : Platform).magicAccessors) {s : State} {own : String} {m : MethodId} {args : Array Value} {Ts xw : List Cond} {ex : List String} {nc : List (String × String)} (hown : s.vm.findClass own = some m.cls) (hts : ∀ w ∈ Ts, w.before args s = true) (hxw : ∀ w ∈ xw, va_Nw w s) (hnc : ∀ q ∈ nc, va_Nc q.1 q.2 s) {X : String} {j pc h : Nat} {cX : ClassId} (hex : ex[j]? = some X) (hfX : s.vm.findClass X = some cX) :
    ∀ (hh : List (Nat × Nat × Nat × Nat × List Nat)) (t : List ExceptionTableEntry), t.map (fun y => (y.startPc, y.endPc, y.handlerPc, y.catchType)) = sx_raw hh → sx_okH Ts xw ex nc own hh → sx_find hh pc j = some h → sx_hit pl s m.cls pc cX h t := by
  intro hh
  induction hh with
  | nil => intro t _ _ hf; cases hf
  | cons q r ih =>
    intro t ht hok hf
    cases t with
    | nil => cases ht
    | cons y t' =>
      obtain ⟨q1, q2, q3, q4, q5⟩ := q
      simp only [sx_raw, List.map_cons, List.cons.injEq, Prod.mk.injEq] at ht
      obtain ⟨⟨e1, e2, e3, e4⟩, ht⟩ := ht
      obtain ⟨hne, nm, hlk, hcs⟩ := hok _ List.mem_cons_self
      dsimp only at hne hlk hcs
      have ihr := ih t' ht (fun z hz => hok z (List.mem_cons_of_mem _ hz))
      unfold sx_find at hf
      dsimp only at hf
      by_cases hcov : q1 ≤ pc ∧ pc < q2
      · rw [if_pos hcov] at hf
        obtain ⟨c', hc', hl⟩ := Cond.classLink_spec hown (hts _ hlk) pl hpl
        refine Or.inr ⟨by simp [covers, e1, e2, hcov], by rw [e4]; exact hne, c', by rw [e4]; exact hl, ?_⟩
        have hj := hcs j X hex
        by_cases hm : j ∈ q5
        · rw [if_pos hm] at hf hj
          cases hf
          obtain ⟨c1, t1, g1, g2, g3⟩ := Cond.castable_spec (va_Nw.use (A := args) rfl (hxw _ hj))
          cases hfX.symm.trans g1
          cases hc'.symm.trans g2
          exact Or.inl ⟨g3, e3⟩
        · rw [if_neg hm] at hf hj
          obtain ⟨c1, t1, g1, g2, g3⟩ := hnc _ hj
          cases hfX.symm.trans g1
          cases hc'.symm.trans g2
          exact Or.inr ⟨g3, ihr hf⟩
      · rw [if_neg hcov] at hf
        refine Or.inl ⟨?_, ihr hf⟩
        simp only [covers, e1, e2]
        rw [← Bool.not_eq_true]
        intro hz
        simp only [Bool.and_eq_true, decide_eq_true_eq] at hz
        exact hcov hz
/-- a call of a static method that has handlers -/
theorem sx_runSW {p : Program} {l : Launch} {e : Env} {R : Room} {s : State} {m : MethodId} {args : Array Value} {below : List Frame} {meth : Method} {c : Code} {H : Heap} {locs : List Loc} {cells slots : Nat} {y : MethodName} {bytes cc : ByteArray} {maxL nL mc ms n index : Nat} {ret : Option FieldType} {hh : List (Nat × Nat × Nat × Nat)} {ws : List Cond} {rm : Room} {Pc : Array Value → State → Prop} {Qc : Array Value → State → Outcome → State → Prop} {free : Addr → Prop} {Ts : List Cond} {own : String} {As rest : List Value} {g : JFrame}
    (S : CallFix p m c cc nL s args Ts own) (hM : Met l y ws rm Pc Qc mc ms free) (hrc : rm.cells = mc) (hrs : rm.slots = ms) (hfr : rm.frames + 1 ≤ R.frames) (hlo : 8 + (maxL + 11) + rm.locals ≤ R.locals) (hws : ∀ w ∈ ws, ∀ (a' : Array Value) (U : State), s.WarmedH U.vm → w.before a' U = true) (hcw : Cond.codeWith y bytes maxL ret hh ∈ ws) (hini : (Cond.initialized y.cls).before args s = true) (hy : y.cls ≠ "java/lang/invoke/MethodHandle" ∧ y.cls ≠ "java/lang/invoke/VarHandle" ∧ (parseMethodDescriptor y.desc).map (fun d => d.parameters.length) = some n) (hl : (Cond.methodLink own index y).before args s = true) (hstt : (Cond.static y).before args s = true) (hp : PreS s H Pc As)
    (hg : g.method = m) (hn : As.length = n) (hsize : g.locals.size = nL) (hstack : g.stack = As.reverse ++ rest) (hW : 2 * g.monitorRoom + (rest.map fun v => v.category).sum ≤ 8) (hdg : decode cc g.pc = .ok (.invokestatic index, 3)) (hf : cells + mc ≤ R.cells ∧ slots + ms ≤ R.slots) :
    va_Run p l e R s m args below meth c H locs cells slots mc ms g rest (Qc As.toArray) (free) := by
  have hK : Back l R p e below s args y 3 8 (PreOf R mc ms Pc) (PostOf Qc mc ms free) := va_backW (hh := hh) (bytes := bytes) (maxL := maxL) (ret := ret) hM hp.1 hrc hrs hfr hlo hws hcw (fun a' U hW => word_at hW (Or.inl (by first | rfl | simp [Cond.onTables, Cond.keeps, Cond.steady])) hini)
  obtain ⟨hx, hb, hml, ho, -⟩ := S
  intro T hT X
  obtain ⟨mk, methM, cM, hnamed, hmethM, -, -, -, -, -, -, hsigM⟩ := Cond.codeWith_spec (hws _ hcw args s (State.WarmedH.refl s))
  have hstatic : methM.isStatic = true := Cond.static_spec hnamed hmethM hstt
  obtain ⟨kP, hkP, -⟩ := className_of_methodNamed hnamed
  have hinitP : kP.init = .initialized := Cond.initialized_spec (findClass_of_methodNamed hnamed) hkP hini
  have hlen : As.length = methM.sig.parameters.length := by
    have h2 := hy.2.2
    rw [hsigM] at h2
    exact hn.trans (Option.some.inj h2).symm
  obtain ⟨vm₁, X₁, hstep₁⟩ := X.invokestatic hx ho hl hnamed hmethM hstatic hkP hinitP ⟨hy.1, hy.2.1⟩ (g := g) hg (argsL := As) (rest := rest) hlen hstack (by rw [hb]; exact hdg)
  obtain ⟨v, ⟨U', l2, c2, s2⟩, X', ⟨g', mk', t, L, e1, e2, hq, h1, hL, h2, h3⟩, hsteps⟩ := hK m meth c ⟨T.setVm vm₁, locs, cells, slots⟩ { g with stack := rest } (.invokestatic index) mk As.toArray X₁ hg (hsize.trans hml.symm) (by rw [hb]; exact hdg) hW (X₁.named hnamed) ⟨hf.1, hf.2, hp.2 (T.setVm vm₁) hT X₁.warmed⟩
  dsimp only [Pt.U, Pt.locs, Pt.cells, Pt.slots] at X' e1 e2 h1 h2 h3 hsteps
  subst h1; subst h2; subst h3
  exact ⟨v, (T.setVm vm₁).calling g' mk' As.toArray, t, U', L, hT, X', hL, e1, e2, hq, fun target h => hstep₁ _ fun acts => by rw [doInvoke_state]; exact hsteps.trans h⟩
theorem sx_xk_tab {w : Cond} (h : sx_xk w = true) : w.onTables = true ∨ ∃ C, w = .arrayOver (.object C) := by
  unfold sx_xk at h
  split at h
  · exact Or.inl rfl
  · exact Or.inl rfl
  · exact Or.inr ⟨_, rfl⟩
  · exact Or.inl rfl
  · cases h
section SXSOUND
variable {l : Launch} {D : va_G} {cl : List vw_C} {tys : List (ClassId × FieldType)} {ex : List String} {zs : List (String × String × String × Value)} {K0 base : Nat} {ua : Nat → Nat} {Ts xw : List Cond} {ft : Nat → Nat → FieldType} {df : Nat → List Value} {tf : Nat → FieldType} {nt : Nat} {cst : Nat → Nat → Bool} {ks : Nat → Value} {mt : Nat → Option sx_M} {Kw : Nat} {nc : List (String × String)}
/-- how a method ends -/
def sx_MQ (D : va_G) (cl : List vw_C) (tys : List (ClassId × FieldType)) (ex : List String) (zs : List (String × String × String × Value)) (K0 base : Nat) (ua : Nat → Nat) (r : Option Value ⊕ Nat) (hs : sx_H) (below : List Frame) (args : Array Value) (s : State) (mc ms : Nat) : State → Prop := match r with
  | .inl v => MQ below (sx_Qc D cl tys ex zs K0 base ua v hs) args s mc ms (fun q => base ≤ q)
  | .inr x => fun t => t.status = .running ∧ Ended t below (.threw (ua x)) ∧ sx_Et base mc ms (ua x) (fun t => sx_R D cl tys ex zs K0 base ua t hs t.heap) args s (.threw (ua x)) t
/-- what holds at a method's entry, of the heap there -/
def sx_E (base : Nat) (s : State) : Prop := (∀ w ∈ sx_ew, ∀ args : Array Value, w.before args s = true) ∧ ∀ (q : Nat) (cell : Cell), base ≤ q → s.heap[q]? = some cell → cell.vm.isStatics = false
theorem sx_E.of (hA : sx_A K0 base ua) {s : State} {hs : sx_H} (hR : sx_R D cl tys ex zs K0 base ua s hs s.heap) : sx_E base s := by
  refine ⟨fun w hw args => ?_, fun q cell hq hc => hR.noStat hA hq hc⟩
  simp only [sx_ew, List.mem_cons, List.not_mem_nil, or_false] at hw
  rcases hw with rfl | rfl | rfl | rfl
  · exact hR.2.2.2.2.2.1.lays args
  · exact hR.2.2.2.2.2.2.1.lays args
  · exact hR.2.2.2.2.2.1.isRef args
  · exact hR.2.2.2.2.2.2.1.isRef args
/-- the JDK's checkIndex, whatever its formatter -/
theorem sx_pcM {l : Launch} {D : va_G} {cl : List vw_C} {tys : List (ClassId × FieldType)} {ex : List String} {zs : List (String × String × String × Value)} {K0 base : Nat} {ua : Nat → Nat} {Ts : List Cond} {bytes : ByteArray} {hs : sx_H} (d0 : decode bytes 0 = .ok (.iload_n 0, 1)) (d1 : decode bytes 1 = .ok (.ifCond .lt 8, 3)) (d4 : decode bytes 4 = .ok (.iload_n 0, 1)) (d5 : decode bytes 5 = .ok (.iload_n 1, 1)) (d6 : decode bytes 6 = .ok (.if_icmp .lt 10, 3)) (d16 : decode bytes 16 = .ok (.iload_n 0, 1)) (d17 : decode bytes 17 = .ok (.ireturn, 1)) {i w : Int32} {v : Value} (hv1 : v.category = 1) (hi : ¬ i < 0) (hw : i < w) :
    MetFree l sx_pC (headSpec (Cond.code sx_pC bytes 3 (some .int) :: Ts) { frames := 0, cells := 0, slots := 0, locals := 0 }) (va_Pc [.int i, .int w, v] (fun U => sx_R D cl tys ex zs K0 base ua U hs U.heap)) (fun _ _ _ _ _ => True) (fun a st o t => sx_Qc D cl tys ex zs K0 base ua (some (.int i)) hs a st o t ∧ ∃ L, FrameEnd st o t L 0 0 ∧ ∀ q ∈ L, base ≤ q.base) := by
  refine MetFree.of_bodyS (code := bytes) (maxLocals := 3) (ret := some .int) (by decide) ?_ ?_
  · intro args s m h hn
    obtain ⟨meth, c, h1, h2, h3, h4, h5, h6, -, -⟩ := Cond.code_spec hn (atoms_spec (ws := Cond.code sx_pC bytes 3 (some .int) :: Ts) h _ List.mem_cons_self)
    exact ⟨meth, c, h1, h2, h3, h4, h5, h6⟩
  · intro p e s m args below meth c s₁ B hml hv _
    obtain ⟨rfl, hR⟩ := hv
    have hh0 : s₁.heap = s.heap := by rw [B.state]; rfl
    have hl := lv_entry ([.int i, .int w, v] : List Value) (n := 3) (by have e : (lg_sl ([.int i, .int w, v] : List Value)).length = 3 := by { simp only [lg_sl, List.flatMap_cons, List.flatMap_nil, hv1, List.length_append, List.length_nil]; rfl }; omega)
    have hent := lg_entry_eq m ([.int i, .int w, v] : List Value) 3
    generalize (lg_sl ([.int i, .int w, v] : List Value) ++ List.replicate (3 - (lg_sl ([.int i, .int w, v] : List Value)).length) Slot.unset).toArray = ls at hl hent
    have l0 : ls[0]? = some (.val (.int i)) := hl.2.2 (0, .int i) (by simp [lv_args])
    have l1 : ls[1]? = some (.val (.int w)) := hl.2.2 (1, .int w) (by simp [lv_args, Value.category])
    have hS := Stand.of_body B
    have hb : W p l e { frames := 0, cells := 0, slots := 0, locals := 0 } s m ([.int i, .int w, v] : List Value).toArray below meth c s.heap [] 0 0 (MQ below (sx_Qc D cl tys ex zs K0 base ua (some (.int i)) hs) ([.int i, .int w, v] : List Value).toArray s 0 0 (fun q => base ≤ q)) (F0 m 0 ls []) := by
      refine lv_iload_n B.exec B.bytes d0 rfl l0 ?_
      refine lv_if_lt (tgt := 9) B.exec B.bytes d1 (by decide) (fun q => absurd q hi) (fun _ => ?_)
      refine lv_iload_n B.exec B.bytes d4 rfl l0 ?_
      refine lv_iload_n B.exec B.bytes d5 rfl l1 ?_
      refine lv_icmp_lt (tgt := 16) B.exec B.bytes d6 (by decide) (fun _ => ?_) (fun q => absurd hw q)
      refine lv_iload_n B.exec B.bytes d16 rfl l0 ?_
      exact W.zret (v := i) B.exec B.bytes B.returns rfl (fun t ht hW => ⟨rfl, by rw [ht]; exact hR.moved hW.alike⟩) (fun q h => by cases h) d17 B.notSynchronized
    obtain ⟨t, a1, o, b1, b2, b3⟩ := hb s₁ hh0 hS
    exact ⟨t, o, by rw [hent]; exact a1, b1, b2, ⟨b3.1, b3.2⟩⟩
theorem sx_kd_c {i : Instr} {b : Nat} (hi : (∃ idx, i = .ldc idx) ∨ ∃ idx, i = .getstatic idx) (h0 : ¬ sx_kd i b = 0) (h5 : ¬ sx_kd i b = 5) : False := by
  rcases hi with ⟨idx, rfl⟩ | ⟨idx, rfl⟩ <;>
  · unfold sx_kd at h0 h5
    by_cases z : b = 1000
    · exact h5 (if_pos z)
    · exact h0 (if_neg z)
theorem sx_rcvS {K0 : Nat} {hs : sx_H} {idx b : Nat} {vals : List Value} (hb : 100 ≤ b) (h : sx_rcv K0 hs (.invokespecial idx) b vals = true) : ∃ (x : Nat) (As fs : List Value), vals = .ref x :: As ∧ hs[x]? = some (.inr (.inl (b - 100, fs))) ∧ K0 ≤ x := by
  unfold sx_rcv at h
  split at h
  · rename_i hc
    cases hc
  · rename_i hc
    cases hc
  · rename_i x As hi
    rw [if_neg (by omega)] at h
    split at h
    · rename_i o ho
      obtain ⟨ci, fs⟩ := o
      simp only [Bool.and_eq_true, beq_iff_eq, decide_eq_true_eq] at h
      obtain ⟨rfl, hx⟩ := h
      exact ⟨x, As, fs, rfl, by rw [Nat.add_sub_cancel]; exact sx_obj_inv ho, hx⟩
    · cases h
  · cases h
/-- a method's contract out of its body's walk -/
theorem sx_free (hA : sx_A K0 base ua) {M : sx_M} {vals : List Value} {hs hs1 : sx_H} {v : Option Value ⊕ Nat} {dc ds d : Nat} (hpl : plainFor M.1 = true) (hwrd : (lg_sl vals).length ≤ M.2.2.1) (hI : M.2.2.2.2.2.1 = true → M.1.name = "<init>")
    (body : ∀ {p : Program} {e : Env} {R : Room} {s : State} {m : MethodId} {args : Array Value} {below : List Frame} {meth : Method} {c : Code} {H : Heap} {locs : List Loc} {cells slots : Nat} {ls : Array Slot}, p.tables.exec = Jvm.exec → c.code = M.2.1 → c.maxLocals = M.2.2.1 → c.exceptionTable.toList.map (fun y => (y.startPc, y.endPc, y.handlerPc, y.catchType)) = sx_raw M.2.2.2.2.2.2.2 → s.vm.findClass M.1.cls = some m.cls → (∀ w ∈ Ts, w.before args s = true) → (∀ w ∈ xw, va_Nw w s) → (∀ q ∈ nc, va_Nc q.1 q.2 s) → sx_E base s → va_K D cl tys s → meth.sig.returnType = M.2.2.2.1 → meth.locks = false → (M.2.2.2.2.2.1 = true → meth.name = "<init>") → lv_has ls M.2.2.1 (sx_upL ua (lv_args 0 vals)) → sx_R D cl tys ex zs K0 base ua s hs H → (∀ q ∈ locs, base ≤ q.base) → d ≤ R.frames → d * Kw ≤ R.locals → cells + dc ≤ R.cells → slots + ds ≤ R.slots →
      W p l e R s m args below meth c H locs cells slots (sx_MQ D cl tys ex zs K0 base ua v hs1 below args s (cells + dc) (slots + ds)) (F0 m 0 ls (sx_upS ua []))) :
    MetFree l M.1 (headSpec (sx_cw M :: Ts) { frames := d, cells := dc, slots := ds, locals := d * Kw }) (sx_Pc D cl tys ex zs K0 base ua xw nc vals hs) (fun _ _ _ _ _ => True) (match v with
      | .inl v => fun a st o t => sx_Qc D cl tys ex zs K0 base ua v hs1 a st o t ∧ ∃ L, FrameEnd st o t L dc ds ∧ ∀ q ∈ L, base ≤ q.base
      | .inr x => sx_Et base dc ds (ua x) (fun t => sx_R D cl tys ex zs K0 base ua t hs1 t.heap)) := by
  refine MetFree.of_bodySF (code := M.2.1) (maxLocals := M.2.2.1) (ret := M.2.2.2.1) hpl ?_ ?_
  · intro args s m h hn
    have hc := atoms_spec (ws := sx_cw M :: Ts) h _ List.mem_cons_self
    unfold sx_cw at hc
    split at hc
    · obtain ⟨meth, c, h1, h2, h3, h4, h5, h6, -, -⟩ := Cond.code_spec hn hc
      exact ⟨meth, c, h1, h2, h3, h4, h5, h6⟩
    · obtain ⟨m9, meth, c, hn9, h1, h2, h3, h4, -, h5, h6, -⟩ := Cond.codeWith_spec hc
      cases hn.symm.trans hn9
      exact ⟨meth, c, h1, h2, h3, h4, h5, h6⟩
  · intro p e s m args below meth c s₁ B hml hv _
    obtain ⟨rfl, hR, hK, hX, hnc⟩ := hv
    have hts := atoms_spec (ws := sx_cw M :: Ts) B.pre
    have hxt : c.exceptionTable.toList.map (fun y => (y.startPc, y.endPc, y.handlerPc, y.catchType)) = sx_raw M.2.2.2.2.2.2.2 := by
      have hc := hts _ List.mem_cons_self
      unfold sx_cw at hc
      split at hc
      · rename_i hnil
        have h0 := B.noHandlers hc
        have h1 : c.exceptionTable.toList = [] := List.eq_nil_of_length_eq_zero (by simpa [Array.isEmpty] using h0)
        rw [h1, hnil]
        rfl
      · obtain ⟨m9, meth9, c9, hn9, h1, h2, -, -, h5, -⟩ := Cond.codeWith_spec hc
        cases B.named.symm.trans hn9
        cases B.method.symm.trans h1
        cases (Stand.of_body B).code.symm.trans h2
        exact h5
    have hh0 : s₁.heap = s.heap := by rw [B.state]; rfl
    have hl := lv_entry (vals.map (sx_up ua)) (n := M.2.2.1) (by rw [sx_up_words]; exact hwrd)
    have hent := lg_entry_eq m (vals.map (sx_up ua)) M.2.2.1
    generalize (lg_sl (vals.map (sx_up ua)) ++ List.replicate (M.2.2.1 - (lg_sl (vals.map (sx_up ua))).length) Slot.unset).toArray = ls at hl hent
    rw [← sx_up_args] at hl
    have hb := body (R := { frames := d, cells := dc, slots := ds, locals := d * Kw }) (locs := []) (cells := 0) (slots := 0) (below := below) (e := e) B.exec B.bytes hml hxt (findClass_of_methodNamed B.named) (fun w hw => hts w (List.mem_cons_of_mem _ hw)) hX hnc (sx_E.of hA hR) hK B.returns B.notSynchronized (fun h => (name_of_methodNamed B.named B.method).1.trans (hI h)) hl hR (fun q h => by cases h) (Nat.le_refl _) (Nat.le_refl _) (by dsimp only; omega) (by dsimp only; omega)
    rw [Nat.zero_add, Nat.zero_add] at hb
    have hS := Stand.of_body B
    cases v with
    | inl v =>
      obtain ⟨t, a1, o, b1, b2, b3⟩ := hb s₁ hh0 hS
      exact ⟨t, o, by rw [hent]; exact a1, b1, b2, ⟨b3.1, b3.2⟩⟩
    | inr x =>
      obtain ⟨t, a1, b1, b2, b3⟩ := hb s₁ hh0 hS
      exact ⟨t, .threw (ua x), by rw [hent]; exact a1, b1, b2, b3⟩
set_option maxHeartbeats 4000000 in
theorem sx_sound (hfl : l.flags = pinnedFlags ++ [noTraceFlag]) (hA : sx_A K0 base ua) (hG : ∀ w ∈ Ts, goodWord w = true) (hxk : ∀ w ∈ xw, sx_xk w = true) (htf : ∀ t q, tys[t]? = some q → q.2 = tf t) (hnt : ∀ t, t < nt → ∃ cT, tys[t]? = some (cT, tf t)) (hc0 : ∀ t, cst 0 t = true → ∃ E, tf t = .object E) (hc1 : ∀ ci t, cst (ci + 1) t = true → ∃ (r : vw_C) (E : String), cl[ci]? = some r ∧ tf t = .object E ∧ (r.1 = E ∨ Cond.castable r.1 E ∈ xw)) (hKw : 50 ≤ Kw) (hmt : ∀ k M, mt k = some M → sx_okM Ts xw cl ft df tf nt zs ks mt Kw ex nc M) :
    ∀ (n d : Nat) (M : sx_M) (pc : Nat) (lv : List (Nat × Value)) (st : List Value) (hs : sx_H) (v : Option Value ⊕ Nat) (hs1 : sx_H) (dc ds : Nat), sx_okM Ts xw cl ft df tf nt zs ks mt Kw ex nc M → sx_run K0 ft df tf cst zs ks mt n d M pc lv st hs = some (v, hs1, dc, ds) →
    ∀ {p : Program} {e : Env} {R : Room} {s : State} {m : MethodId} {args : Array Value} {below : List Frame} {meth : Method} {c : Code} {H : Heap} {locs : List Loc} {cells slots : Nat} {ls : Array Slot}, p.tables.exec = Jvm.exec → c.code = M.2.1 → c.maxLocals = M.2.2.1 → c.exceptionTable.toList.map (fun y => (y.startPc, y.endPc, y.handlerPc, y.catchType)) = sx_raw M.2.2.2.2.2.2.2 → s.vm.findClass M.1.cls = some m.cls → (∀ w ∈ Ts, w.before args s = true) → (∀ w ∈ xw, va_Nw w s) → (∀ q ∈ nc, va_Nc q.1 q.2 s) → sx_E base s → va_K D cl tys s → meth.sig.returnType = M.2.2.2.1 → meth.locks = false → (M.2.2.2.2.2.1 = true → meth.name = "<init>") → lv_has ls M.2.2.1 (sx_upL ua lv) → sx_R D cl tys ex zs K0 base ua s hs H → (∀ q ∈ locs, base ≤ q.base) → d ≤ R.frames → d * Kw ≤ R.locals → cells + dc ≤ R.cells → slots + ds ≤ R.slots →
      W p l e R s m args below meth c H locs cells slots (sx_MQ D cl tys ex zs K0 base ua v hs1 below args s (cells + dc) (slots + ds)) (F0 m pc ls (sx_upS ua st)) := by
  intro n
  induction n with
  | zero =>
    intro d M pc lv st hs v hs1 dc ds hok h
    cases h
  | succ n ih =>
    intro d M pc lv st hs v hs1 dc ds hok h p e R s m args below meth c H locs cells slots ls hx hb hml hxt hown hts hxw hnc hE hK hr hlk hin hl hR hL hfr hlo hcc hss
    obtain ⟨hpl, hcd, hini, hnm, hkw, hI, hokH, hcode⟩ := id hok
    unfold sx_run at h
    obtain ⟨⟨i, len, a, b⟩, h1, h⟩ := Option.bind_eq_some_iff.mp h
    obtain ⟨hd, hoI, hoJ, hoK, hoT, hoN⟩ := hcode pc i len a b h1
    dsimp only at h
    by_cases k0 : sx_kd i b = 0
    · rw [if_pos k0] at h
      obtain ⟨⟨F, hs2, dc1, ds1⟩, h2, h⟩ := Option.bind_eq_some_iff.mp h
      obtain ⟨⟨v', hs', dc2, ds2⟩, h3, h4⟩ := Option.bind_eq_some_iff.mp h
      cases h4
      dsimp only at h3 hcc hss ⊢
      refine sx_hs_ok hx hb hA hown hts hxw hK htf hnt hc0 hc1 hin hd hoI hl hR hL h2 (by omega) (by omega) (fun ls' H1 locs1 hl' hR1 hL1 => ?_)
      have hg := ih d M F.1 F.2.1 F.2.2 hs2 _ _ dc2 ds2 hok h3 (e := e) (R := R) (below := below) (cells := cells + dc1) (slots := slots + ds1) hx hb hml hxt hown hts hxw hnc hE hK hr hlk hin hl' hR1 hL1 hfr hlo (by omega) (by omega)
      rw [Nat.add_assoc, Nat.add_assoc] at hg
      exact hg
    · rw [if_neg k0] at h
      by_cases k1 : sx_kd i b = 1
      · rw [if_pos k1] at h
        obtain ⟨rfl, rfl, rfl, rfl, hE⟩ := sx_end_inv h
        rcases hE with ⟨rfl, ty, x, h5, rfl, rfl, hf⟩ | ⟨rfl, h5, x, rfl, rfl⟩ | ⟨rfl, ty, h5, hrt, ⟨x, rfl, rfl⟩ | ⟨rfl, rfl⟩⟩ | ⟨rfl, h5, rfl, rfl⟩
        · exact W.zret (v := x) hx hb (hr.trans h5) (sx_fit_ok hf).1 (fun t ht hW => ⟨rfl, by rw [ht]; exact hR.moved hW.alike⟩) hL hd hlk
        · exact W.lret (v := x) hx hb (hr.trans h5) (fun t ht hW => ⟨rfl, by rw [ht]; exact hR.moved hW.alike⟩) hL hd hlk
        · exact W.aret (v := .ref (ua x)) hx hb (hr.trans h5) (sx_isRT_inv hrt) (Or.inr ⟨_, rfl⟩) (fun t ht hW => ⟨rfl, by rw [ht]; exact hR.moved hW.alike⟩) hL hd hlk
        · exact W.aret (v := .null) hx hb (hr.trans h5) (sx_isRT_inv hrt) (Or.inl rfl) (fun t ht hW => ⟨rfl, by rw [ht]; exact hR.moved hW.alike⟩) hL hd hlk
        · exact W.vret hx hb (hr.trans h5) (fun t ht hW => ⟨rfl, by rw [ht]; exact hR.moved hW.alike⟩) hL hd hlk
      · rw [if_neg k1] at h
        by_cases k3 : sx_kd i b = 3
        · rw [if_pos k3] at h
          obtain ⟨⟨x, r⟩, h2, h9⟩ := Option.bind_eq_some_iff.mp h
          clear h
          dsimp only at h9
          by_cases hc : 1 ≤ d ∧ sx_cats r ≤ 8
          · rw [if_pos hc] at h9
            have e1 := sx_popR_inv h2
            subst e1
            cases i with
            | invokespecial idx =>
              have hb2 : b = 2 := by
                by_cases z : b = 2
                · exact z
                · simp only [sx_kd, if_neg z] at k3
                  exact absurd k3 (by decide)
              obtain ⟨rfl, hJ, -⟩ := hoJ
              obtain ⟨j1, j2, j3⟩ := hJ hb2
              have hd1 : 1 * Kw ≤ d * Kw := Nat.mul_le_mul_right Kw hc.1
              refine W.objInit hx hb hown (hts _ j1) (hts _ j2) (hts _ j3) rfl (hl.1.trans hml.symm) (a := ua x) (rest := sx_upS ua r) rfl hd (Nat.le_trans hc.1 hfr) ?_ ?_
              · show 2 * 0 + _ + 12 ≤ _
                rw [sx_up_cats]
                have := hc.2
                omega
              · exact ih d M (pc + 3) lv r hs _ _ _ _ hok h9 hx hb hml hxt hown hts hxw hnc hE hK hr hlk hin hl hR hL hfr hlo hcc hss
            | new idx =>
              simp only [sx_kd] at k3
              split at k3 <;> exact absurd k3 (by decide)
            | invokevirtual idx =>
              simp only [sx_kd] at k3
              split at k3 <;> exact absurd k3 (by decide)
            | invokestatic idx =>
              simp only [sx_kd] at k3
              split at k3 <;> exact absurd k3 (by decide)
            | ldc idx =>
              simp only [sx_kd] at k3
              split at k3 <;> exact absurd k3 (by decide)
            | getstatic idx =>
              simp only [sx_kd] at k3
              split at k3 <;> exact absurd k3 (by decide)
            | _ => simp only [sx_kd] at k3; exact absurd k3 (by decide)
          · rw [if_neg hc] at h9
            cases h9
        · rw [if_neg k3] at h
          by_cases k4 : sx_kd i b = 4
          · rw [if_pos k4] at h
            by_cases hc : 6 ≤ d ∧ sx_cats st ≤ 8
            · rw [if_pos hc] at h
              cases h
              cases i with
              | new idx =>
                have hb1 : b = 1 := by
                  by_cases z : b = 1
                  · exact z
                  · simp only [sx_kd, if_neg z] at k4
                    exact absurd k4 (by decide)
                obtain ⟨X, names, ic, hex, hfit, hnfit, hnlen, j1, j2, j3, hd3, hd4, hd7, hat⟩ := hoT hb1
                have hnoH : c.exceptionTable.toList = [] := by
                  rw [hoK k4] at hxt
                  exact List.map_eq_nil_iff.mp hxt
                have hlen3 : len = 3 := hoI.1
                subst hlen3
                obtain ⟨cX, kX', hfX, hkX', -⟩ := Cond.instantiable_spec (hts _ j2)
                have hd1 : 6 * Kw ≤ d * Kw := Nat.mul_le_mul_right Kw hc.1
                intro T0 hT0 X0
                have hsz : s.heap.size ≤ H.size := by rw [← hT0]; exact X0.same.2.1
                revert T0
                show W p l e R s m args below meth c H locs cells slots _ _
                refine W.newcK hx hb hown (hts _ j1) (hts _ j2) (hts _ j3) rfl hd (by omega) (by omega) hfX rfl fun H1 kC hkC e1 z1 o1 => ?_
                refine lv_dup (pc := pc + 3) hx hb hd3 rfl ?_
                intro T hT X1
                have htr : e.platform.stackTraces = false := Launch.traces_off hfl X1.admits
                obtain ⟨vm', ce, L, hL2, hce, hcv, X2, st2⟩ := sx_ctor X1 hx htr hown hfit hnfit (fun w hw => by
                    rcases hat w hw with z | z | z
                    · exact hts w z
                    · exact (sx_xk_tab (hxk w z)).elim (fun q => va_Nw.use q (hxw w z)) (fun ⟨C, q⟩ => by subst q; exact va_AO.use (hxw _ z))
                    · exact hE.1 w z args) (fun q hq cell hcl => hE.2 _ cell (hL q hq) hcl) hfX hkC (a := H.size) (by rw [hT]; exact e1) hsz (g := F0 m (pc + 4) ls (.ref H.size :: .ref H.size :: sx_upS ua st)) rfl (hl.1.trans hml.symm) (rest := sx_upS ua st) rfl (by rw [hb]; exact hd4) (by omega) (by
                    show 2 * 0 + (1 + ((sx_upS ua st).map fun v => v.category).sum) + _ ≤ _
                    rw [sx_up_cats]
                    have h8 := hc.2
                    omega)
                obtain ⟨hwalk, hrun, hended, hWU, hsame⟩ := X2.athrowLeaves hx (g := F0 m (pc + 7) ls (.ref H.size :: sx_upS ua st)) rfl rfl rfl (by rw [hnoH]; intro z hz; cases hz) rfl (by rw [hb]; exact hd7) hlk
                have hnew := hR.new hA
                have hsz1 : H.size < H1.size := by omega
                refine ⟨_, st2 _ hwalk, hrun, by rw [hnew]; exact hended, by rw [hnew], ?_, hWU, locs ++ L, hsame, fun q hq => (List.mem_append.mp hq).elim (hL q) (fun z => by rw [hL2 q z, ← hnew]; exact sx_base hA hR.1)⟩
                have hhp : (((T.setVm vm').setCell H.size ce).setFrames (.throwing H.size :: below)).heap = H1.setIfInBounds H.size ce := by
                  show T.heap.setIfInBounds H.size ce = _
                  rw [hT]
                show sx_R D cl tys ex zs K0 base ua (((T.setVm vm').setCell H.size ce).setFrames (.throwing H.size :: below)) (hs ++ [.inr (.inr a)]) (((T.setVm vm').setCell H.size ce).setFrames (.throwing H.size :: below)).heap
                rw [hhp]
                refine sx_R.moved hWU.alike ?_
                refine hR.push hA (by rw [Array.size_setIfInBounds]; exact z1) ?_ (fun q hq => by rw [Array.getElem?_setIfInBounds_ne (Nat.ne_of_gt hq)]; exact o1 q hq)
                exact ⟨ce, X, hex, by rw [Array.getElem?_setIfInBounds_self_of_lt hsz1], by rw [hcv]; rfl, by rw [hce]; exact hfX⟩
              | invokespecial idx =>
                simp only [sx_kd] at k4
                split at k4 <;> exact absurd k4 (by decide)
              | invokevirtual idx =>
                simp only [sx_kd] at k4
                split at k4 <;> exact absurd k4 (by decide)
              | invokestatic idx =>
                simp only [sx_kd] at k4
                split at k4 <;> exact absurd k4 (by decide)
              | ldc idx =>
                simp only [sx_kd] at k4
                split at k4 <;> exact absurd k4 (by decide)
              | getstatic idx =>
                simp only [sx_kd] at k4
                split at k4 <;> exact absurd k4 (by decide)
              | _ => simp only [sx_kd] at k4; exact absurd k4 (by decide)
            · rw [if_neg hc] at h
              cases h
          rw [if_neg k4] at h
          by_cases k5 : sx_kd i b = 5
          · rw [if_pos k5] at h
            have hN := hoN k5
            obtain ⟨⟨pc1, st1, hs2⟩, h2, h9⟩ := Option.bind_eq_some_iff.mp h
            clear h
            dsimp only at h9
            by_cases hc : 1 ≤ d ∧ sx_cats st1 ≤ 8
            · rw [if_pos hc] at h9
              have hd1 : 1 * Kw ≤ d * Kw := Nat.mul_le_mul_right Kw hc.1
              have hfr1 : 1 ≤ R.frames := Nat.le_trans hc.1 hfr
              have hlo1 : 50 ≤ R.locals := by omega
              have hml2 : c.maxLocals = ls.size := hml.trans hl.1.symm
              cases i with
              | ldc idx =>
                have hlen : len = 2 := hoI.1
                subst hlen
                obtain ⟨n1, off, tg, n2, n3⟩ := hN
                simp only [sx_nt] at h2
                obtain ⟨⟨x, r⟩, h3, h2⟩ := Option.bind_eq_some_iff.mp h2
                dsimp only at h2
                by_cases hz : x = a - 1000 ∧ sx_nmi K0 (a - 1000) hs = true
                · rw [if_pos hz] at h2
                  cases h2
                  obtain ⟨hxe, hmi⟩ := hz
                  have e1 := sx_popR_inv h3
                  rw [hxe] at e1
                  subst e1
                  obtain ⟨hp, j, hj⟩ := sx_nmi_inv hmi
                  have hM : va_Mi "[Ljava/lang/Object;" (ua (a - 1000)) s := (hR.2.2.2.1 _ _ hj hp).2
                  refine va_ldcM hx hb hown (hts _ n1) hM hd ?_
                  refine W.eq (g2 := F0 m (pc + 2) ls (va_rf (some (ua (a - 1000))) :: va_rf (some (ua (a - 1000))) :: sx_upS ua st1)) rfl ?_
                  exact lv_acmp_ne hx hb n2 n3 (fun q => absurd rfl q) (fun _ => ih d M _ lv _ hs _ _ _ _ hok h9 hx hb hml hxt hown hts hxw hnc hE hK hr hlk hin hl hR hL hfr hlo hcc hss)
                · rw [if_neg hz] at h2
                  cases h2
              | invokevirtual idx =>
                have hlen : len = 3 := hoJ.1
                subst hlen
                obtain ⟨n1, n2, n3, n4, n5, n6⟩ := hN
                obtain ⟨q, h3, h4⟩ := Option.bind_eq_some_iff.mp h2
                cases h4
                unfold sx_ngc at h3
                split at h3
                · rename_i x r
                  obtain ⟨o, h5, h6⟩ := Option.bind_eq_some_iff.mp h3
                  by_cases hz : o.1 = 4 ∧ K0 ≤ x ∧ sx_nmi K0 (a - 1000) hs = true
                  · rw [if_pos hz] at h6
                    cases h6
                    obtain ⟨hp, j, hj⟩ := sx_nmi_inv hz.2.2
                    have hM : va_Mi "[Ljava/lang/Object;" (ua (a - 1000)) s := (hR.2.2.2.1 _ _ hj hp).2
                    obtain ⟨t, xx⟩ := o
                    have ho4 : t = 4 := hz.1
                    subst ho4
                    obtain ⟨qq, g1, g2⟩ := hR.2.2.1 x _ (sx_arr_inv h5) hz.2.1
                    have hq2 : qq.2 = .object "java/lang/Object" := (htf 4 qq g1).trans n6
                    have hra := (hK.2 4 _ g1).2
                    rw [hq2] at hra
                    have hcats : sx_cats r ≤ 8 := by
                      have := hc.2
                      simp only [sx_cats, List.map_cons, List.sum_cons] at this ⊢
                      omega
                    refine va_getC hx hb hml2 hown (hts _ n1) (va_Nw.use rfl (hxw _ n2)) (hts _ n3) (hts _ n4) (hts _ n5) hM ⟨_, g2, ?_, ?_⟩ hfr1 ?_ hd (ih d M _ lv _ hs _ _ _ _ hok h9 hx hb hml hxt hown hts hxw hnc hE hK hr hlk hin hl hR hL hfr hlo hcc hss)
                    · rw [sx_cellV]
                      rfl
                    · rw [sx_cellV]
                      exact va_nmO hra rfl
                    · have hu := sx_up_cats ua r
                      unfold sx_upS at hu
                      rw [hu]
                      omega
                  · rw [if_neg hz] at h6
                    cases h6
                · cases h3
              | invokestatic idx =>
                have hlen : len = 3 := hoJ.1
                subst hlen
                obtain ⟨n1, n2, n3, n4⟩ := hN
                obtain ⟨q, h3, h4⟩ := Option.bind_eq_some_iff.mp h2
                cases h4
                unfold sx_ncp at h3
                split at h3
                · rename_i n dp y sp x r
                  obtain ⟨⟨t, n0, A0⟩, h5, h3⟩ := Option.bind_eq_some_iff.mp h3
                  obtain ⟨⟨t1, n1', A1⟩, h6, h3⟩ := Option.bind_eq_some_iff.mp h3
                  dsimp only at h3
                  split at h3
                  · rename_i hz
                    obtain ⟨⟨z1, z2, z3⟩, ⟨z4, z5, z6⟩, z7, z8⟩ := hz
                    subst z1
                    have hnw : nativeFrameWords "java/lang/System" "arraycopy" 5 ≤ 20 := by decide
                    obtain ⟨qq, hqq⟩ := sx_R.kd hR (sx_arr_inv h5)
                    split at h3
                    · rename_i f g hf hg
                      split at h3
                      · rename_i hy
                        cases h3
                        have e0 := sx_arr_inv h5
                        have e1 := sx_arr_inv h6
                        rw [show (n0, A0) = (n0, .inl f) from sx_ai_inv hf] at e0
                        rw [show (n1', A1) = (n1', .inl g) from sx_ai_inv hg] at e1
                        refine sx_cpyi hx hb hml2 hown (hts _ n1) (hts _ n2) (hts _ n3) (hts _ n4) hK hA hR hL e0 e1 z2 z3 hqq (by rw [htf _ _ hqq]; exact hy.1) z4 z5 z6 z7 z8 (fun i hi => by rw [htf _ _ hqq]; exact (sx_fit_ok (hy.2 i hi)).2) hfr1 ?_ hd (fun H1 locs1 hR1 hL1 => ?_)
                        · rw [sx_up_cats]
                          have := hc.2
                          dsimp only at this
                          omega
                        · exact ih d M _ lv _ _ _ _ _ _ hok h9 hx hb hml hxt hown hts hxw hnc hE hK hr hlk hin hl hR1 hL1 hfr hlo hcc hss
                      · cases h3
                    · rename_i f g hf hg _
                      split at h3
                      · rename_i hy
                        cases h3
                        have e0 := sx_arr_inv h5
                        have e1 := sx_arr_inv h6
                        rw [show (n0, A0) = (n0, .inr (.inr (.inr (.inr f)))) from sx_aq_inv hf] at e0
                        rw [show (n1', A1) = (n1', .inr (.inr (.inr (.inr g)))) from sx_aq_inv hg] at e1
                        obtain ⟨E, hE0⟩ := hc0 _ hy.1
                        have hq2 : qq = (qq.1, .object E) := by rw [← hE0, ← htf _ qq hqq]
                        rw [hq2] at hqq
                        refine sx_cpyq hx hb hml2 hown (hts _ n1) (hts _ n2) (hts _ n3) (hts _ n4) hK hA hR hL e0 e1 z2 z3 hqq z4 z5 z6 z7 z8 (fun i hi v hv => ?_) hfr1 ?_ hd (fun H1 locs1 hR1 hL1 => ?_)
                        · have hel := hy.2 i hi
                          rw [hv] at hel
                          simp only [sx_elok] at hel
                          split at hel
                          · rename_i o ho
                            simp only [Bool.and_eq_true, decide_eq_true_eq] at hel
                            obtain ⟨r', E', hr', hE', hca⟩ := hc1 _ _ hel.2
                            have hEE : E' = E := by rw [hE0] at hE'; cases hE'; rfl
                            subst hEE
                            exact ⟨o.1, o.2, r', sx_obj_inv ho, hel.1, hr', hca.imp id (fun z => hxw _ z)⟩
                          · cases hel
                        · rw [sx_up_cats]
                          have := hc.2
                          dsimp only at this
                          omega
                        · exact ih d M _ lv _ _ _ _ _ _ hok h9 hx hb hml hxt hown hts hxw hnc hE hK hr hlk hin hl hR1 hL1 hfr hlo hcc hss
                      · cases h3
                    · cases h3
                  · cases h3
                · cases h3
              | getstatic idx =>
                have hlen : len = 3 := hoI.1
                subst hlen
                obtain ⟨n1, ic, bytes, n2, n3, n4, n5, n6, d0, d1, d4, d5, d6, d16, d17⟩ := hN
                obtain ⟨q, h3, h4⟩ := Option.bind_eq_some_iff.mp h2
                cases h4
                unfold sx_nfm at h3
                split at h3
                · rename_i w i r
                  by_cases hz : ¬ i < 0 ∧ i < w
                  · rw [if_pos hz] at h3
                    cases h3
                    have hcats : sx_cats r ≤ 8 := by
                      have := hc.2
                      simp only [sx_cats, List.map_cons, List.sum_cons] at this ⊢
                      omega
                    have hZq : ∃ v : Value, v.category = 1 ∧ va_Z "jdk/internal/util/Preconditions" "SIOOBE_FORMATTER" "Ljava/util/function/BiFunction;" v (fun q => base ≤ q) s H := by
                      rcases hR.2.2.2.2.2.2.2 with z | ⟨t, z⟩
                      · exact ⟨.null, rfl, z⟩
                      · exact ⟨.ref t, rfl, z⟩
                    obtain ⟨v, hv1, cf, kf, fi, f, aa, cell, y1, y2, y3, y4, y5, y6, y7, y8⟩ := hZq
                    refine W.gets hx hb hown (hts _ n1) y1 y2 y3 y4 y5 (fun e => by rw [e] at y6; cases y6) y7 rfl hd ?_
                    have hMet : Met l sx_pC (Cond.code sx_pC bytes 3 (some .int) :: Ts) { frames := 0, cells := 0, slots := 0, locals := 0 } (va_Pc [.int i, .int w, v] (fun U => sx_R D cl tys ex zs K0 base ua U hs U.heap)) (sx_Qc D cl tys ex zs K0 base ua (some (.int i)) hs) 0 0 (fun q => base ≤ q) := sx_pcM d0 d1 d4 d5 d6 d16 d17 hv1 hz.1 hz.2
                    refine sx_after (pc := pc + 3) (st0 := v :: sx_upS ua (.int w :: .int i :: r)) (v := some (.int i)) (rest := r) (hs1 := hs) (va_runS (As := [.int i, .int w, v]) (n := 3) ⟨hx, hb, hml, hown, hts⟩ hMet (va_cwS 3 hts (sx_goodIn hG _ ?_) rfl rfl rfl ⟨by decide, by decide, by decide⟩ ⟨by dsimp only; omega, by dsimp only; omega⟩) ⟨?_, ?_⟩ rfl rfl hl.1 rfl ?_ n2 ⟨by omega, by omega⟩) hL (fun H1 locs1 hR1 hL1 => ?_)
                    · intro w hw
                      simp only [va_wsS, List.mem_append, List.mem_cons, List.not_mem_nil, or_false] at hw
                      rcases hw with (rfl | rfl | rfl) | rfl | hw
                      · exact n3
                      · exact n4
                      · exact n5
                      · exact n6
                      · exact hw
                    · intro a U g mk h
                      exact ⟨h.1, sx_R.moved (u := U) (U := U.calling g mk a) (Vm.Alike.refl U.vm) h.2⟩
                    · intro U hU hW
                      exact ⟨rfl, by show sx_R D cl tys ex zs K0 base ua U hs U.heap; rw [hU]; exact hR.moved hW.alike⟩
                    · show 2 * 0 + _ ≤ 8
                      rw [sx_up_cats]
                      omega
                    · exact ih d M _ lv _ _ _ _ _ _ hok h9 hx hb hml hxt hown hts hxw hnc hE hK hr hlk hin hl hR1 hL1 hfr hlo hcc hss
                  · rw [if_neg hz] at h3
                    cases h3
                · cases h3
              | _ => cases h2
            · rw [if_neg hc] at h9
              cases h9
          rw [if_neg k5] at h
          cases d with
          | zero => cases h
          | succ d' =>
            dsimp only at h
            obtain ⟨M', hM', h⟩ := Option.bind_eq_some_iff.mp h
            have hok' := hmt _ _ hM'
            obtain ⟨y', cc', mL', rt', na', iI', cd', hh'⟩ := M'
            dsimp only at h
            by_cases hc : sx_tot i na' ≤ st.length ∧ sx_rcv K0 hs i b (st.take (sx_tot i na')).reverse = true ∧ sx_cats (st.drop (sx_tot i na')) ≤ 8 ∧ (lg_sl (st.take (sx_tot i na')).reverse).length ≤ mL'
            · rw [if_pos hc] at h
              obtain ⟨⟨v1, hs2, dc1, ds1⟩, h2, h⟩ := Option.bind_eq_some_iff.mp h
              obtain ⟨⟨v2, hs3, dc2, ds2⟩, h3, h4⟩ := Option.bind_eq_some_iff.mp h
              cases h4
              dsimp only at h2 h3 hcc hss ⊢
              obtain ⟨hc1', hc2, hc3, hc4⟩ := hc
              obtain ⟨hpl', hcd', hini', hnm', hkw', hI', -, -⟩ := id hok'
              dsimp only at hpl' hcd' hini' hnm' hkw' hI'
              generalize hvals : (st.take (sx_tot i na')).reverse = vals at h2 hc2 hc4
              generalize hrest : st.drop (sx_tot i na') = rest at h3 hc3
              have hstk : st = vals.reverse ++ rest := by rw [← hrest]; exact sx_take hvals
              have hlen : vals.length = sx_tot i na' := by rw [← hvals, List.length_reverse, List.length_take]; omega
              have hMF := sx_free (l := l) (D := D) (tys := tys) (ex := ex) (base := base) (ua := ua) (nc := nc) (M := (y', cc', mL', rt', na', iI', cd', hh')) (d := d') (Kw := Kw) hA hpl' hc4 hI' (ih d' _ 0 _ [] hs v1 hs2 dc1 ds1 hok' h2)
              dsimp only at hMF
              have hroom : d' + 1 ≤ R.frames ∧ 8 + (mL' + 11) + d' * Kw ≤ R.locals := by
                refine ⟨hfr, ?_⟩
                have h7 : (d' + 1) * Kw = d' * Kw + Kw := Nat.succ_mul d' Kw
                omega
              have hW8 : 2 * (F0 m pc ls (sx_upS ua st)).monitorRoom + ((sx_upS ua rest).map fun v => v.category).sum ≤ 8 := by
                show 2 * 0 + _ ≤ 8
                rw [sx_up_cats]
                omega
              cases v1 with
              | inl w1 =>
                have hMet : Met l y' (sx_cw (y', cc', mL', rt', na', iI', cd', hh') :: Ts) { frames := d', cells := dc1, slots := ds1, locals := d' * Kw } (sx_Pc D cl tys ex zs K0 base ua xw nc vals hs) (sx_Qc D cl tys ex zs K0 base ua w1 hs2) dc1 ds1 (fun q => base ≤ q) := hMF
                have hgo : ∀ (H1 : Heap) (locs1 : List Loc), sx_R D cl tys ex zs K0 base ua s hs2 H1 → (∀ q ∈ locs1, base ≤ q.base) → W p l e R s m args below meth c H1 locs1 (cells + dc1) (slots + ds1) (sx_MQ D cl tys ex zs K0 base ua v2 hs3 below args s (cells + (dc1 + dc2)) (slots + (ds1 + ds2))) (F0 m (pc + 3) ls (sx_upS ua (w1.toList ++ rest))) := by
                  intro H1 locs1 hR1 hL1
                  have hg := ih (d' + 1) M (pc + 3) lv (w1.toList ++ rest) hs2 _ _ dc2 ds2 hok h3 (e := e) (R := R) (below := below) (cells := cells + dc1) (slots := slots + ds1) hx hb hml hxt hown hts hxw hnc hE hK hr hlk hin hl hR1 hL1 hfr hlo (by omega) (by omega)
                  rw [Nat.add_assoc, Nat.add_assoc] at hg
                  exact hg
                cases i with
                | invokevirtual idx =>
                  obtain ⟨rfl, hJ⟩ := hoJ
                  obtain ⟨j1, j2, j5, rr, hrr, j3⟩ := hJ _ hM'
                  dsimp only at j1 j2 j3 j5
                  subst j5
                  obtain ⟨x, As, fs, rfl, hxo, hxK⟩ := sx_rcvV hc2
                  have hgi : GoodIn Ts (Cond.code y' cc' mL' rt' :: Ts) := sx_goodIn hG _ (fun w hw => (List.mem_cons.mp hw).elim (fun z => z ▸ hcd') id)
                  have hAl : (As.map (sx_up ua)).length = na' := by
                    rw [List.length_map]
                    have : As.length + 1 = na' + 1 := hlen
                    omega
                  have hsk : sx_upS ua st = (As.map (sx_up ua)).reverse ++ .ref (ua x) :: sx_upS ua rest := by
                    rw [hstk]
                    simp [sx_upS, List.map_append, List.map_reverse, sx_up]
                  have hv := va_recv (ci := b) (q0 := 0) hK (sx_one (D := D) (cl := cl) (a := ua x) (e := .inr (b, fs.map (sx_up ua))) (hR.2.2.1 x _ hxo hxK)) hrr rfl
                  rcases j1 with j1 | ⟨host, j1⟩
                  · exact sx_after (va_runV (C := rr.1) (b := ua x) (As := As.map (sx_up ua)) (n := na') ⟨hx, hb, hml, hown, hts⟩ hMet ⟨callB_of na' hts hgi rfl rfl rfl (hts _ hini') (hts _ j1) hnm' hroom, hts _ j2, hts _ j3⟩ ⟨sx_blind hxk, hv, sx_pre hxk hK hxw hnc hR⟩ rfl hAl hl.1 hsk hW8 hd ⟨by omega, by omega⟩) hL hgo
                  · exact sx_after (va_runVN (C := rr.1) (b := ua x) (As := As.map (sx_up ua)) (n := na') (host := host) ⟨hx, hb, hml, hown, hts⟩ hMet ⟨va_cnB na' hts hgi rfl rfl rfl (hxw _ j1) (hts _ hini') hnm' hroom, hts _ j2, hts _ j3⟩ ⟨sx_blind hxk, hv, sx_pre hxk hK hxw hnc hR⟩ rfl hAl hl.1 hsk hW8 hd ⟨by omega, by omega⟩) hL hgo
                | invokestatic idx =>
                  obtain ⟨rfl, hJ⟩ := hoJ
                  obtain ⟨j1, j2⟩ := hJ _ hM'
                  dsimp only at j1 j2
                  have hskS : sx_upS ua st = (vals.map (sx_up ua)).reverse ++ sx_upS ua rest := by
                    rw [hstk]
                    simp [sx_upS, List.map_append, List.map_reverse]
                  cases hh' with
                  | nil =>
                    refine sx_after (va_runS (As := vals.map (sx_up ua)) (n := na') ⟨hx, hb, hml, hown, hts⟩ hMet (va_cwS na' hts (sx_goodIn hG _ ?_) rfl rfl rfl hnm' hroom) ⟨sx_blind hxk, sx_pre hxk hK hxw hnc hR⟩ rfl (by rw [List.length_map]; exact hlen) hl.1 hskS hW8 hd ⟨by omega, by omega⟩) hL hgo
                    intro w hw
                    simp only [va_wsS, List.mem_append, List.mem_cons, List.not_mem_nil, or_false] at hw
                    rcases hw with (rfl | rfl | rfl) | rfl | hw
                    · exact j1
                    · exact j2
                    · exact hini'
                    · exact hcd'
                    · exact hw
                  | cons q9 r9 =>
                    exact sx_after (sx_runSW (As := vals.map (sx_up ua)) (n := na') (bytes := cc') (maxL := mL') (ret := rt') (hh := sx_raw (q9 :: r9)) ⟨hx, hb, hml, hown, hts⟩ hMet rfl rfl hroom.1 hroom.2 (pay_in hts (sx_goodIn hG _ (fun w hw => (List.mem_cons.mp hw).elim (fun z => z ▸ hcd') id))) List.mem_cons_self (hts _ hini') hnm' (hts _ j1) (hts _ j2) ⟨sx_blind hxk, sx_pre hxk hK hxw hnc hR⟩ rfl (by rw [List.length_map]; exact hlen) hl.1 hskS hW8 hd ⟨by omega, by omega⟩) hL hgo
                | invokespecial idx =>
                  have hb2 : b ≠ 2 := fun z => k3 (by simp only [sx_kd, if_pos z])
                  obtain ⟨rfl, -, hJ, hJs⟩ := hoJ
                  by_cases hb100 : 100 ≤ b
                  · obtain ⟨j2, j3, j5, j1, j6, j7⟩ := hJs hb100 _ hM'
                    dsimp only at j1 j2 j3 j5 j6 j7
                    subst j5
                    obtain ⟨x, As, fs, rfl, hxo, hxK⟩ := sx_rcvS hb100 hc2
                    have hAl : (As.map (sx_up ua)).length = na' := by
                      rw [List.length_map]
                      have : As.length + 1 = na' + 1 := hlen
                      omega
                    have hsk : sx_upS ua st = (As.map (sx_up ua)).reverse ++ .ref (ua x) :: sx_upS ua rest := by
                      rw [hstk]
                      simp [sx_upS, List.map_append, List.map_reverse, sx_up]
                    obtain ⟨rr, hrr, -⟩ := hR.2.2.1 x _ hxo hxK
                    have hv := va_recv (ci := b - 100) (q0 := 0) hK (sx_one (D := D) (cl := cl) (a := ua x) (e := .inr (b - 100, fs.map (sx_up ua))) (hR.2.2.1 x _ hxo hxK)) hrr rfl
                    refine sx_after (va_runSU (C := rr.1) (b := ua x) (As := As.map (sx_up ua)) (n := na') (hK.1 _ rr hrr).2 ⟨hx, hb, hml, hown, hts⟩ hMet (va_cwSU na' hts (sx_goodIn hG _ ?_) rfl rfl rfl ⟨j3, hnm'.2.2⟩ hroom) ⟨sx_blind hxk, hv, sx_pre hxk hK hxw hnc hR⟩ rfl hAl hl.1 hsk hW8 hd ⟨by omega, by omega⟩) hL hgo
                    intro w hw
                    simp only [va_wsSU, List.mem_append, List.mem_cons, List.not_mem_nil, or_false] at hw
                    rcases hw with (rfl | rfl | rfl | rfl | rfl) | rfl | hw
                    · exact j1
                    · exact j6
                    · exact j7
                    · exact j2
                    · exact hini'
                    · exact hcd'
                    · exact hw
                  obtain ⟨j2, j3, j4, j5, j1⟩ := hJ hb2 (by omega) _ hM'
                  dsimp only at j1 j2 j3 j4 j5
                  subst j4
                  subst j5
                  obtain ⟨x, As, rfl⟩ := sx_rcvI hc2
                  have hgi : GoodIn Ts (Cond.code y' cc' mL' none :: Ts) := sx_goodIn hG _ (fun w hw => (List.mem_cons.mp hw).elim (fun z => z ▸ hcd') id)
                  have hAl : (As.map (sx_up ua)).length = na' := by
                    rw [List.length_map]
                    have : As.length + 1 = na' + 1 := hlen
                    omega
                  have hsk : sx_upS ua st = (As.map (sx_up ua)).reverse ++ .ref (ua x) :: sx_upS ua rest := by
                    rw [hstk]
                    simp [sx_upS, List.map_append, List.map_reverse, sx_up]
                  rcases j1 with j1 | ⟨host, j1⟩
                  · exact sx_after (va_runI (b := ua x) (As := As.map (sx_up ua)) (n := na') ⟨hx, hb, hml, hown, hts⟩ hMet (cwI na' hts hgi rfl rfl rfl (hts _ hini') (hts _ j1) (hts _ j2) j3 hnm' hroom) ⟨sx_blind hxk, sx_pre hxk hK hxw hnc hR⟩ rfl hAl hl.1 hsk hW8 hd ⟨by omega, by omega⟩) hL hgo
                  · exact sx_after (va_runIN (b := ua x) (As := As.map (sx_up ua)) (n := na') (host := host) ⟨hx, hb, hml, hown, hts⟩ hMet ⟨va_cnB na' hts hgi rfl rfl rfl (hxw _ j1) (hts _ hini') hnm' hroom, j3, hts _ j2⟩ ⟨sx_blind hxk, sx_pre hxk hK hxw hnc hR⟩ rfl hAl hl.1 hsk hW8 hd ⟨by omega, by omega⟩) hL hgo
                | ldc idx => exact (sx_kd_c (Or.inl ⟨idx, rfl⟩) k0 k5).elim
                | getstatic idx => exact (sx_kd_c (Or.inr ⟨idx, rfl⟩) k0 k5).elim
                | _ => first | exact absurd rfl k0 | exact absurd rfl k1 | exact (sx_kd_new k0 k4).elim
              | inr x =>
                dsimp only at h3
                split at h3
                · rename_i j hj
                  obtain ⟨hp9, hf9, h10⟩ := Option.bind_eq_some_iff.mp h3
                  clear h3
                  by_cases hc9 : K0 ≤ x ∧ sx_isV i = true
                  · rw [if_pos hc9] at h10
                    cases i with
                    | invokevirtual idx =>
                      obtain ⟨rfl, hJ⟩ := hoJ
                      obtain ⟨j1, j2, j5, rr, hrr, j3⟩ := hJ _ hM'
                      dsimp only at j1 j2 j3 j5
                      subst j5
                      obtain ⟨z, As, fs, rfl, hxo, hxK⟩ := sx_rcvV hc2
                      have hrecv := va_recv (ci := b) (q0 := 0) hK (sx_one (D := D) (cl := cl) (a := ua z) (e := .inr (b, fs.map (sx_up ua))) (hR.2.2.1 z _ hxo hxK)) hrr rfl
                      obtain ⟨cellB, hcB, hoB, hclB⟩ := hrecv
                      intro T hT X
                      obtain ⟨U, L, X1, hL1, ⟨tt, hwd, e1, e2⟩, stp⟩ := sx_callT X hx (C := rr.1) (bytes := cc') (maxL := mL') (ret := rt') hown (j1.imp (hts _) (fun ⟨host, z⟩ => ⟨host, va_Nw.use rfl (hxw _ z)⟩)) (hts _ j2) (hts _ j3) (hts _ hcd') (hts _ hini') ⟨hnm'.1, hnm'.2.1⟩ hMF (pay_in hts (sx_goodIn hG _ (fun w hw => (List.mem_cons.mp hw).elim (fun z => z ▸ hcd') id))) hroom.1 hroom.2 (by dsimp only; omega) (by dsimp only; omega) (b := ua z) (by rw [hT]; exact hcB) hoB hclB (g := F0 m pc ls (sx_upS ua st)) rfl (hl.1.trans hml.symm) (argsL := As.map (sx_up ua)) (rest := sx_upS ua rest) (fun sig hsig => by
                          have h9 := hnm'.2.2
                          rw [hsig] at h9
                          rw [List.length_map]
                          have h12 : As.length + 1 = na' + 1 := hlen
                          have h11 : sig.parameters.length = na' := Option.some.inj h9
                          omega) (by
                          show sx_upS ua st = _
                          rw [hstk]
                          simp [sx_upS, List.map_append, List.map_reverse, sx_up]) hW8 (by rw [hb]; exact hd) (fun vm₁ g' mk hWv => sx_blind hxk _ (T.setVm vm₁) g' mk (sx_pre (vals := .ref z :: As) hxk hK hxw hnc hR (T.setVm vm₁) hT hWv))
                      have hR1 : sx_R D cl tys ex zs K0 base ua s hs2 U.heap := by
                        rw [e1]
                        exact hwd.moved (by rw [← e2]; exact X1.warmed.alike.symm)
                      obtain ⟨cell, Xn, hex, hcl, hcs, hfc⟩ := hR1.2.2.1 x _ hj hc9.1
                      obtain ⟨kE, hkE, -⟩ := Vm.findClass_spec hfc
                      obtain ⟨vm', X2, st2⟩ := sx_catch X1 (g := { F0 m pc ls (sx_upS ua st) with stack := sx_upS ua rest }) rfl hcl (fun k hk => by rw [hk] at hcs; cases hcs) ⟨kE, hkE⟩ (sx_hit_of (by rw [X1.admits.platform]) hown hts hxw hnc hex hfc M.2.2.2.2.2.2.2 c.exceptionTable.toList hxt hokH hf9)
                      have hg := ih (d' + 1) M hp9 lv [.ref x] hs2 _ _ dc2 ds2 hok h10 (e := e) (R := R) (below := below) (cells := cells + dc1) (slots := slots + ds1) hx hb hml hxt hown hts hxw hnc hE hK hr hlk hin hl hR1 (fun q hq => (List.mem_append.mp hq).elim (hL q) (hL1 q)) hfr hlo (by omega) (by omega)
                      rw [Nat.add_assoc, Nat.add_assoc] at hg
                      obtain ⟨t2, a1, b1⟩ := hg (U.setVm vm') rfl X2
                      exact ⟨t2, stp _ (st2 _ a1), b1⟩
                    | _ => exact absurd (show false = true from hc9.2) (by decide)
                  · rw [if_neg hc9] at h10
                    cases h10
                · cases h3
            · rw [if_neg hc] at h
              cases h
end SXSOUND
