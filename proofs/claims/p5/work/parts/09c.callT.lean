/-! EXCEPTIONS: a call whose callee throws -/
section SXG
variable {p : Program} {l : Launch} {e : Env} {R : Room} {s : State} {m : MethodId} {args : Array Value} {below : List Frame} {meth : Method} {c : Code} {locs : List Loc} {cells slots : Nat} {T : State}
/-- how a method that throws ends: by this object, its world W, and the frame -/
def sx_Et (base mc ms : Nat) (x : Addr) (Wd : State → Prop) : Array Value → State → Outcome → State → Prop := fun _ st o t => o = .threw x ∧ Wd t ∧ st.WarmedH t.vm ∧ ∃ L : List Loc, st.sameButNew ({ t with vm := st.vm } : State) L mc ms ∧ ∀ q ∈ L, base ≤ q.base
theorem sx_callT (X : Stand p l e R s m args below meth c T locs cells slots) (hexec : p.tables.exec = Jvm.exec) {own C : String} {index : Nat} {y : MethodName} {bytes : ByteArray} {maxL : Nat} {ret : Option FieldType} (hown : s.vm.findClass own = some m.cls) (hlink : (Cond.methodLink own index y).before args s = true ∨ ∃ host : String, (Cond.methodLinkNest own index y host).before args s = true) (hinst : (Cond.instanceMethod y).before args s = true) (hsel : (Cond.selects C y y).before args s = true)
    (hcode : (Cond.code y bytes maxL ret).before args s = true) (hini : (Cond.initialized y.cls).before args s = true) (hy : y.cls ≠ "java/lang/invoke/MethodHandle" ∧ y.cls ≠ "java/lang/invoke/VarHandle") {ws : List Cond} {rm : Room} {Pc : Array Value → State → Prop} {base : Nat} {x : Addr} {Wd : State → Prop}
    (hM : MetFree l y (headSpec ws rm) Pc (fun _ _ _ _ _ => True) (sx_Et base rm.cells rm.slots x Wd)) (hws : ∀ w ∈ ws, ∀ (a' : Array Value) (U : State), s.WarmedH U.vm → w.before a' U = true) (hframes : rm.frames + 1 ≤ R.frames) (hlocals : 8 + (maxL + 11) + rm.locals ≤ R.locals) (hcells : cells + rm.cells ≤ R.cells) (hslots : slots + rm.slots ≤ R.slots)
    {b : Addr} {cellB : Cell} (hcell : T.heap[b]? = some cellB) (hobj : cellB.vm.isStatics = false) (hcls : s.vm.findClass C = some cellB.cls) {g : JFrame} (hg : g.method = m) (hsize : g.locals.size = c.maxLocals) {argsL rest : List Value} (hlen : ∀ sig, parseMethodDescriptor y.desc = some sig → argsL.length = sig.parameters.length)
    (hstack : g.stack = argsL.reverse ++ .ref b :: rest) (hW8 : 2 * g.monitorRoom + (rest.map fun v => v.category).sum ≤ 8) (hdg : decode c.code g.pc = .ok (.invokevirtual index, 3)) (hP : ∀ (vm₁ : Vm) (g' : JFrame) (mk : MethodId), s.WarmedH vm₁ → Pc (Value.ref b :: argsL).toArray ((T.setVm vm₁).calling g' mk (Value.ref b :: argsL).toArray)) :
    ∃ (U : State) (L : List Loc), Stand p l e R s m args below meth c U (locs ++ L) (cells + rm.cells) (slots + rm.slots) ∧ (∀ q ∈ L, base ≤ q.base) ∧ (∃ t : State, Wd t ∧ U.heap = t.heap ∧ U.vm = t.vm) ∧ ∀ target, Steps p.tables e below ((U.setTop { g with stack := rest }).pushFrame (.throwing x)) target → Steps p.tables e below (T.setTop g) target := by
  obtain ⟨mk, methM, hnamed, hmethM, hstM, habM⟩ := Cond.instanceMethod_spec hinst
  obtain ⟨methM', cM, hmethM', hcM, -, hlM, -, -, -, hsigM⟩ := Cond.code_spec hnamed hcode
  cases hmethM.symm.trans hmethM'
  obtain ⟨c2, r2, m2, q1, q2, q3, q4, kP, hkP, hkPi⟩ := Cond.selects_spec hsel
  cases hcls.symm.trans q1
  cases (State.methodFound?_of_named hnamed hy).symm.trans q2
  cases hnamed.symm.trans q3
  have hselP : selectMethod e.platform s.vm cellB.cls mk = .method mk := by rw [Launch.admits_selectMethod X.admits]; exact q4
  obtain ⟨vm₁, X₁, hstep₁⟩ := hlink.elim (fun hlink => X.invokevirtual hexec hown hlink hnamed hmethM hstM hkP hkPi hy (a := b) (cell := cellB) hcell
    (fun z h => by rw [h] at hobj; cases hobj) hselP hmethM habM hkP hkPi (g := g) hg (argsL := argsL) (rest := rest) (hlen _ hsigM) hstack hdg) (fun ⟨host, hlink⟩ => X.invokevirtualNest hexec hown hlink hnamed hmethM hstM hkP hkPi hy (a := b) (cell := cellB) hcell
    (fun z h => by rw [h] at hobj; cases hobj) hselP hmethM habM hkP hkPi (g := g) hg (argsL := argsL) (rest := rest) (hlen _ hsigM) hstack hdg)
  generalize hav : (Value.ref b :: argsL).toArray = av at hstep₁ hP
  generalize hU : T.setVm vm₁ = U at X₁ hstep₁
  have hPU : ∀ (g' : JFrame) (mk : MethodId), Pc av (U.calling g' mk av) := fun g' mk => by rw [← hU]; exact hP vm₁ g' mk (by have := X₁.warmed; rw [← hU] at this; exact this)
  generalize hgr : ({ g with stack := rest } : JFrame) = gr at hstep₁
  have hgm : gr.method = m := by rw [← hgr]; exact hg
  have hgs : gr.locals.size = c.maxLocals := by rw [← hgr]; exact hsize
  have hgd : decode c.code gr.pc = .ok (.invokevirtual index, 3) := by rw [← hgr]; exact hdg
  have hgw : 2 * gr.monitorRoom + (gr.stack.map fun v => v.category).sum ≤ 8 := by rw [← hgr]; exact hW8
  have hn : U.methodNamed? y = some mk := X₁.named hnamed
  have h2 : (Cond.code y bytes maxL ret).before av U = true := word_at X₁.warmed (Or.inl rfl) hcode
  have h3 : (Cond.initialized y.cls).before av U = true := word_at X₁.warmed (Or.inl rfl) hini
  obtain ⟨methY, cY, hmY, hcY, -, hlY, -, -, -, -⟩ := Cond.code_spec hn h2
  obtain ⟨kY, hkY, -⟩ := className_of_methodNamed hn
  have hinitY : kY.init = .initialized := Cond.initialized_spec (findClass_of_methodNamed hn) hkY h3
  have h : At U gr.method c below := by rw [hgm]; exact X₁.here
  have happ : (headSpec ws rm).appliesLoose y e.platform (U.calling gr mk av) = true :=
    Spec.appliesLoose_calling (g := gr) h hgd hn hkY hinitY
      (X₁.room_calling (g := gr) (R' := rm) hgs hmY hcY hframes (by rw [hlY]; omega) hcells hslots) (atoms_intro fun w hw => hws w hw _ _ X₁.warmed)
  obtain ⟨mid, hmid⟩ := h.above
  have hfr : (U.setTop gr).frames = (.java gr :: mid) ++ below := by rw [State.frames_setTop' gr h.top, hmid]; rfl
  obtain ⟨o, s₂, hsteps, -, hend, hq⟩ := Steps.callFree hM p X.admits X.cas X.clock (acts := []) hfr happ (hPU gr mk) trivial
  have hq' : sx_Et base rm.cells rm.slots x Wd av (U.calling gr mk av) o s₂ := hq
  obtain ⟨rfl, hwd, hW₂, L, ⟨e2, q2', q3', q4', q5', q6'⟩, hL⟩ := hq'
  rw [State.frames_setTop' gr h.top] at hend
  have e3 : s₂ = ({ (U.calling gr mk av).setFrames s₂.frames with heap := s₂.heap, slotsUsed := s₂.slotsUsed } : State).setVm s₂.vm := by
    have hz : s₂ = ({ s₂ with vm := (U.calling gr mk av).vm } : State).setVm s₂.vm := rfl
    rw [e2] at hz
    exact hz
  have hf₂ : s₂.frames = .throwing x :: .java gr :: U.frames.tail := hend
  have hW' : U.WarmedH s₂.vm := hW₂
  obtain ⟨g₀, hg0⟩ := Option.isSome_iff_exists.mp h.top
  obtain ⟨r, hr⟩ := State.topJava?_eq_some.mp hg0
  have hs₂ : s₂ = ((({ U with heap := s₂.heap, slotsUsed := s₂.slotsUsed } : State).setVm s₂.vm).setTop gr).pushFrame (.throwing x) := by
    have hr' : (({ U with heap := s₂.heap, slotsUsed := s₂.slotsUsed } : State).setVm s₂.vm).frames = .java g₀ :: r := hr
    refine e3.trans ?_
    rw [hf₂, State.calling_eq h.top, State.setFrames_setFrames, State.pushFrame, State.frames_setTop _ hr', State.setTop_of_frames _ hr', State.setFrames_setFrames, hr]
    rfl
  have hsame : U.sameButNew ({ U with heap := s₂.heap, slotsUsed := s₂.slotsUsed } : State) L rm.cells rm.slots := by
    refine ⟨?_, q2', q3', q4', q5', q6'⟩
    obtain ⟨t, ht, -⟩ := State.frames_cons hr
    show ({ U with heap := s₂.heap, slotsUsed := s₂.slotsUsed } : State) = { U.setFrames U.frames with heap := s₂.heap, slotsUsed := s₂.slotsUsed }
    rw [State.setFrames_self ht]
  refine ⟨({ U with heap := s₂.heap, slotsUsed := s₂.slotsUsed } : State).setVm s₂.vm, L,
    ⟨X₁.admits, X₁.cas, X₁.clock, X₁.frames, X₁.room, X₁.hears, X₁.method, X₁.code, (X₁.here.setHeapUsed s₂.heap s₂.slotsUsed).setVm hW'.alike, X₁.tail, State.WarmedH.trans X₁.warmed hW', X₁.limits, X₁.bytes, X₁.same.trans (hsame.setVm s.vm)⟩, hL, ⟨s₂, hwd, rfl, rfl⟩, fun target ht => hstep₁ _ fun acts => ?_⟩
  rw [doInvoke_state]
  rw [← hs₂] at ht
  exact hsteps.trans ht
end SXG
