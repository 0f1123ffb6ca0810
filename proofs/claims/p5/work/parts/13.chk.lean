/-! A METHOD'S NUMBERS, CHECKED BY THE KERNEL -/
abbrev sx_Q : Type := Nat × Instr × Nat × Nat × Nat × List Nat
def sx_cd (L : List sx_Q) (pc : Nat) : Option (Instr × Nat × Nat × Nat) := match L with
  | [] => none
  | q :: r => if q.1 = pc then some (q.2.1, q.2.2.1, q.2.2.2.1, q.2.2.2.2.1) else sx_cd r pc
theorem sx_cd_mem {L : List sx_Q} {pc : Nat} {i : Instr} {len a b : Nat} (h : sx_cd L pc = some (i, len, a, b)) : ∃ t : List Nat, (pc, i, len, a, b, t) ∈ L := by
  induction L with
  | nil => cases h
  | cons q r ih =>
    unfold sx_cd at h
    by_cases hq : q.1 = pc
    · rw [if_pos hq] at h
      obtain ⟨q1, q2, q3, q4, q5, q6⟩ := q
      cases h
      subst hq
      exact ⟨q6, List.mem_cons_self⟩
    · rw [if_neg hq] at h
      obtain ⟨t, ht⟩ := ih h
      exact ⟨t, List.mem_cons_of_mem _ ht⟩
/-- private methods of a superclass: a subclass's object selects them -/
def sx_selN : List (String × MethodName) := [("java/lang/StringBuilder", ⟨"java/lang/AbstractStringBuilder", "ensureCapacityInternal", "(I)V"⟩), ("java/lang/StringBuilder", ⟨"java/lang/AbstractStringBuilder", "newCapacity", "(I)I"⟩)]
def sx_selW : List Cond := sx_selN.map fun q => Cond.selects q.1 q.2 q.2
theorem sx_selP {C : String} {y : MethodName} {s : State} {args : Array Value} {n : Nat} (hsame : (Cond.sameMethod y.cls y.cls y.name y.desc).before args s = true) (hins : (Cond.instantiable C n).before args s = true) (hpriv : (Cond.privateMethod y).before args s = true) (hinst : (Cond.instanceMethod y).before args s = true) : (Cond.selects C y y).before args s = true := by
  obtain ⟨c, k, hc, hk, -, -, -, -⟩ := Cond.instantiable_spec hins
  obtain ⟨cn, ck, r1, hcn, hck, hni, hf, hn1⟩ := Cond.sameMethod_found hsame
  obtain ⟨mk, methM, hnamed, hmethM, -, -⟩ := Cond.instanceMethod_spec hinst
  have hn1 : s.methodNamed? y = some r1 := hn1
  have e : r1 = mk := Option.some.inj (hn1.symm.trans hnamed)
  rw [e] at hf
  have hcls : mk.cls = cn := Option.some.inj ((findClass_of_methodNamed hnamed).symm.trans hcn)
  have hsel : selectMethod {} s.vm c mk = .method mk := selectMethod_private hmethM (Cond.privateMethod_at hpriv mk methM hnamed hmethM)
  simp only [Cond.before, Cond.holds, Cond.value, hc, hf, hnamed, hsel, hcls, hck]
  simp
  exact hni
theorem sx_selW_ok {s : State} {args : Array Value} (hts : ∀ w ∈ tables_1, w.before args s = true) : ∀ w ∈ sx_selW, w.before args s = true := by
  have h : sx_selN.all (fun q => decide (Cond.sameMethod q.2.cls q.2.cls q.2.name q.2.desc ∈ tables_1) && decide (Cond.instantiable q.1 4 ∈ tables_1) && decide (Cond.privateMethod q.2 ∈ tables_1) && decide (Cond.instanceMethod q.2 ∈ tables_1)) = true := by decide +kernel
  intro w hw
  obtain ⟨q, hq, rfl⟩ := List.mem_map.mp hw
  have h1 := List.all_eq_true.mp h q hq
  simp only [Bool.and_eq_true, decide_eq_true_eq] at h1
  exact sx_selP (hts _ h1.1.1.1) (hts _ h1.1.1.2) (hts _ h1.1.2) (hts _ h1.2)
def sx_all : List Cond := Cond.code x code maxLocals ret :: (sx_selW ++ lw_tbl)
def sx_tw : List Cond := sx_all.filter goodWord
def sx_xw : List Cond := sx_all.filter sx_xk
def sx_inT (w : Cond) : Bool := decide (w ∈ sx_all) && goodWord w
def sx_inX (w : Cond) : Bool := decide (w ∈ sx_all) && sx_xk w
def sx_hT (t : List Nat) (k : Nat) (w : Cond) : Bool := decide (sx_all[t.getD k 0]? = some w) && goodWord w
def sx_hX (t : List Nat) (k : Nat) (w : Cond) : Bool := decide (sx_all[t.getD k 0]? = some w) && sx_xk w
theorem sx_hT_ok {t : List Nat} {k : Nat} {w : Cond} (h : sx_hT t k w = true) : w ∈ sx_tw := by
  simp only [sx_hT, Bool.and_eq_true, decide_eq_true_eq] at h
  exact List.mem_filter.mpr ⟨List.mem_of_getElem? h.1, h.2⟩
theorem sx_hX_ok {t : List Nat} {k : Nat} {w : Cond} (h : sx_hX t k w = true) : w ∈ sx_xw := by
  simp only [sx_hX, Bool.and_eq_true, decide_eq_true_eq] at h
  exact List.mem_filter.mpr ⟨List.mem_of_getElem? h.1, h.2⟩
theorem sx_inT_ok {w : Cond} (h : sx_inT w = true) : w ∈ sx_tw := by
  simp only [sx_inT, Bool.and_eq_true, decide_eq_true_eq] at h
  exact List.mem_filter.mpr h
theorem sx_inX_ok {w : Cond} (h : sx_inX w = true) : w ∈ sx_xw := by
  simp only [sx_inX, Bool.and_eq_true, decide_eq_true_eq] at h
  exact List.mem_filter.mpr h
theorem sx_tw_good : ∀ w ∈ sx_tw, goodWord w = true := fun _ h => (List.mem_filter.mp h).2
theorem sx_xw_kind : ∀ w ∈ sx_xw, sx_xk w = true := fun _ h => (List.mem_filter.mp h).2
def sx_chkF (own : String) (idx : Nat) (dc nm ds : String) (t : List Nat) : Bool := sx_hT t 0 (.fieldLink own idx dc nm ds) || (sx_hT t 0 (.fieldLink own idx own nm ds) && sx_hT t 1 (.sameField own dc nm ds))
theorem sx_chkF_ok {own : String} {idx : Nat} {dc nm ds : String} {t : List Nat} (h : sx_chkF own idx dc nm ds t = true) : ∃ ref : String, Cond.fieldLink own idx ref nm ds ∈ sx_tw ∧ (ref = dc ∨ Cond.sameField ref dc nm ds ∈ sx_tw) := by
  simp only [sx_chkF, Bool.or_eq_true, Bool.and_eq_true] at h
  rcases h with h | h
  · exact ⟨dc, sx_hT_ok h, Or.inl rfl⟩
  · exact ⟨own, sx_hT_ok h.1, Or.inr (sx_hT_ok h.2)⟩
section SXCHK
variable (cl : List vw_C) (ft : Nat → Nat → FieldType) (df : Nat → List Value) (tf : Nat → FieldType) (nt : Nat) (zs : List (String × String × String × Value)) (ks : Nat → Value) (mt : Nat → Option sx_M) (Kw : Nat) (ex : List String) (exn : Nat → List String) (nc : List (String × String)) (hn : Nat → String)
def sx_chkI (own : String) (isI : Bool) (i : Instr) (len a b : Nat) (t : List Nat) : Bool := match i with
  | .getfield idx => len == 3 && (match cl[a]? with
    | some q => decide (b < q.2.2) && sx_chkF own idx (q.2.1 b).1 (q.2.1 b).2.1 (q.2.1 b).2.2.1 t
    | none => false)
  | .putfield idx => len == 3 && (match cl[a]? with
    | some q => decide (b < q.2.2) && sx_chkF own idx (q.2.1 b).1 (q.2.1 b).2.1 (q.2.1 b).2.2.1 t && (!(q.2.1 b).2.2.2 || (isI && (q.2.1 b).1 == own))
    | none => false)
  | .new idx => len == 3 && (b != 0 || match cl[a]? with
    | some q => sx_hT t 0 (.classLink own idx q.1) && sx_hT t 1 (.instantiable q.1 q.2.2) && sx_hT t 2 (.initialized q.1)
    | none => false)
  | .newarray ty => len == 2 && sx_hT t 0 (.arrayClass (newarray.typeOf ty)) && tf a == newarray.typeOf ty && decide (a < nt)
  | .anewarray idx => len == 3 && decide (a < nt) && (match tf a with
    | .object C => sx_hT t 0 (.classLink own idx C) && sx_hX t 1 (.arrayOver (.object C))
    | _ => false)
  | .arraylength => len == 1
  | .iaload => len == 1
  | .baload => len == 1
  | .caload => len == 1
  | .laload => len == 1
  | .aaload => len == 1
  | .iastore => len == 1
  | .bastore => len == 1
  | .castore => len == 1
  | .lastore => len == 1
  | .aastore => len == 1
  | .getstatic idx => len == 3 && (match zs[a]? with
    | some z => sx_hT t 0 (.fieldLink own idx z.1 z.2.1 z.2.2.1)
    | none => true)
  | .ldc idx => len == 2 && (b != 0 || match ks a with
    | .int v => sx_hT t 0 (.constant own idx v)
    | _ => false)
  | .checkcast idx => len == 3 && (match cl[a]? with
    | some q => sx_hT t 0 (.classLink own idx q.1)
    | none => true)
  | .ldc_w idx => len == 3 && (match ks a with
    | .int v => sx_hT t 0 (.constant own idx v)
    | _ => false)
  | .ldc2_w idx => len == 3 && (match ks a with
    | .long v => sx_hT t 0 (.constantLong own idx v)
    | _ => false)
  | _ => true
def sx_chkJ (own : String) (i : Instr) (len a b : Nat) (t : List Nat) : Bool := match i with
  | .invokevirtual idx => len == 3 && (match mt a with
    | some M' => (sx_hT t 0 (.methodLink own idx M'.1) || sx_hX t 0 (.methodLinkNest own idx M'.1 "GuardNet")) && sx_hT t 1 (.instanceMethod M'.1) && M'.2.2.2.2.2.2.2.isEmpty && (match cl[b]? with
      | some r => sx_hT t 2 (.selects r.1 M'.1 M'.1)
      | none => false)
    | none => true)
  | .invokestatic idx => len == 3 && (match mt a with
    | some M' => sx_hT t 0 (.methodLink own idx M'.1) && sx_hT t 1 (.static M'.1)
    | none => true)
  | .invokespecial idx => len == 3 && (if b = 2 then sx_hT t 0 (.methodLink own idx Lib.objectInit) && sx_hT t 1 (.instanceMethod Lib.objectInit) && sx_hT t 2 (.code Lib.objectInit ⟨#[0xb1]⟩ 1 none) else if 100 ≤ b then (match mt a with
    | some M' => sx_hT t 0 (.instanceMethod M'.1) && M'.1.name != "<init>" && M'.2.2.2.2.2.2.2.isEmpty && sx_hT t 1 (.methodLink own idx M'.1) && sx_hT t 2 (.sameMethod M'.1.cls M'.1.cls M'.1.name M'.1.desc) && sx_hT t 3 (.superclass own M'.1.cls)
    | none => true) else (match mt a with
    | some M' => sx_hT t 0 (.instanceMethod M'.1) && M'.1.name == "<init>" && decide (M'.2.2.2.1 = none) && M'.2.2.2.2.2.2.2.isEmpty && (sx_hT t 1 (.methodLink own idx M'.1) || sx_hX t 1 (.methodLinkNest own idx M'.1 "GuardNet"))
    | none => true))
  | _ => true
def sx_chkN (own : String) (cc : ByteArray) (pc : Nat) (i : Instr) (t : List Nat) : Bool := match i with
  | .ldc idx => sx_hT t 0 (.classLink own idx "[Ljava/lang/Object;") && (match decode cc (pc + 2) with
    | .ok (.if_acmp .ne off, 3) => decide (0 ≤ ((pc + 2 : Nat) : Int) + off)
    | _ => false)
  | .invokevirtual idx => sx_hT t 0 (.methodLink own idx sx_gC) && sx_hX t 1 (.declares sx_gC) && sx_hT t 2 (.selects "[Ljava/lang/Object;" sx_gC sx_gC) && sx_hT t 3 (.instanceMethod sx_gC) && sx_hT t 4 (.native sx_gC) && tf 4 == .object "java/lang/Object"
  | .invokestatic idx => sx_hT t 0 (.methodLink own idx arraycopyName) && sx_hT t 1 (.native arraycopyName) && sx_hT t 2 (.static arraycopyName) && sx_hT t 3 (.initialized "java/lang/System")
  | .getstatic idx => sx_hT t 0 (.fieldLink own idx "jdk/internal/util/Preconditions" "SIOOBE_FORMATTER" "Ljava/util/function/BiFunction;") && (match decode cc (pc + 3) with
    | .ok (.invokestatic ic, 3) => sx_hT t 1 (.methodLink own ic sx_pC) && sx_hT t 2 (.static sx_pC) && sx_hT t 3 (.initialized sx_pC.cls) && sx_hT t 4 (.code sx_pC prog_43_method_11_code 3 (some .int)) && decide (decode prog_43_method_11_code 0 = .ok (.iload_n 0, 1)) && decide (decode prog_43_method_11_code 1 = .ok (.ifCond .lt 8, 3)) && decide (decode prog_43_method_11_code 4 = .ok (.iload_n 0, 1)) && decide (decode prog_43_method_11_code 5 = .ok (.iload_n 1, 1)) && decide (decode prog_43_method_11_code 6 = .ok (.if_icmp .lt 10, 3)) && decide (decode prog_43_method_11_code 16 = .ok (.iload_n 0, 1)) && decide (decode prog_43_method_11_code 17 = .ok (.ireturn, 1))
    | _ => false)
  | _ => true
def sx_chkT (own : String) (cc : ByteArray) (pc : Nat) (i : Instr) (a b : Nat) (t : List Nat) : Bool := match i with
  | .new idx => b != 1 || (match ex[a]?, decode cc (pc + 4) with
    | some X, .ok (.invokespecial ic, 3) => Bundle.fit X && (exn a).all Bundle.fit && decide ((exn a).length ≤ 2) && sx_hT t 0 (.classLink own idx X) && sx_hT t 1 (.instantiable X 6) && sx_hT t 2 (.initialized X) && decide (decode cc (pc + 3) = .ok (.dup, 1)) && decide (decode cc (pc + 7) = .ok (.athrow, 1)) && sx_hT t 3 (.methodLink own ic (Bundle.init0 X))
    | _, _ => false)
  | _ => true
def sx_chkH (own : String) (hh : List (Nat × Nat × Nat × Nat × List Nat)) : Bool := hh.all fun h => h.2.2.2.1 != 0 && sx_inT (.classLink own h.2.2.2.1 (hn h.2.2.2.1)) && (List.range ex.length).all fun j => match ex[j]? with
    | some X => if j ∈ h.2.2.2.2 then sx_inX (.castable X (hn h.2.2.2.1)) else decide ((X, hn h.2.2.2.1) ∈ nc)
    | none => true
def sx_chkM (y : MethodName) (cc : ByteArray) (mL : Nat) (ret : Option FieldType) (na : Nat) (isI : Bool) (L : List sx_Q) (hh : List (Nat × Nat × Nat × Nat × List Nat)) (t : List Nat) : Bool :=
  plainFor y && sx_hT t 0 (sx_cw (y, cc, mL, ret, na, isI, sx_cd L, hh)) && sx_hT t 1 (.initialized y.cls) && y.cls != "java/lang/invoke/MethodHandle" && y.cls != "java/lang/invoke/VarHandle" && decide ((parseMethodDescriptor y.desc).map (fun d => d.parameters.length) = some na) && decide (mL + 19 ≤ Kw) && (!isI || y.name == "<init>") && sx_chkH ex nc hn y.cls hh
def sx_chkL (y : MethodName) (cc : ByteArray) (isI : Bool) (hh : List (Nat × Nat × Nat × Nat × List Nat)) (L : List sx_Q) : Bool :=
  L.all fun q => decide (decode cc q.1 = .ok (q.2.1, q.2.2.1)) && sx_chkI cl tf nt zs ks y.cls isI q.2.1 q.2.2.1 q.2.2.2.1 q.2.2.2.2.1 q.2.2.2.2.2 && sx_chkJ cl mt y.cls q.2.1 q.2.2.1 q.2.2.2.1 q.2.2.2.2.1 q.2.2.2.2.2 && (!(sx_kd q.2.1 q.2.2.2.2.1 == 4) || hh.isEmpty) && sx_chkT ex exn y.cls cc q.1 q.2.1 q.2.2.2.1 q.2.2.2.2.1 q.2.2.2.2.2 && (!(sx_kd q.2.1 q.2.2.2.2.1 == 5) || sx_chkN tf y.cls cc q.1 q.2.1 q.2.2.2.2.2)
end SXCHK
/-- what an exception's constructor asks, but for the link of the call -/
def sx_exA (X : String) (names : List String) : List Cond := (Bundle.throwableAtoms ++ Bundle.chain0Atoms X names) ++ (Bundle.ownAtoms0 "" 0 X names).drop ((Bundle.throwableAtoms ++ Bundle.chain0Atoms X names).length + 1)
theorem sx_exA_of {own : String} {ic : Nat} {X : String} {names : List String} {w : Cond} (h : w ∈ Bundle.ownAtoms0 own ic X names) : w = .methodLink own ic (Bundle.init0 X) ∨ w ∈ sx_exA X names := by
  have hd : ∀ (A B : List Cond) (m : Cond), (A ++ m :: B).drop (A.length + 1) = B := fun A B m => by
    rw [List.drop_append]
    simp
  unfold sx_exA
  unfold Bundle.ownAtoms0 at h ⊢
  rw [hd]
  rcases List.mem_append.mp h with h | h
  · exact Or.inr (List.mem_append_left _ h)
  · rcases List.mem_cons.mp h with h | h
    · exact Or.inl h
    · exact Or.inr (List.mem_append_right _ h)
section SXCHO
variable {cl : List vw_C} {ft : Nat → Nat → FieldType} {df : Nat → List Value} {tf : Nat → FieldType} {nt : Nat} {zs : List (String × String × String × Value)} {ks : Nat → Value} {mt : Nat → Option sx_M} {Kw : Nat} {ex : List String} {exn : Nat → List String} {nc : List (String × String)} {hn : Nat → String}
theorem sx_chkI_ok (hC : ∀ ci C T N, cl[ci]? = some (C, T, N) → sx_okC sx_tw cl ft ci C T N) (hdf : ∀ ci C T N, cl[ci]? = some (C, T, N) → (df ci).length = N ∧ (∀ j, j < N → defaultValue (ft ci j) = vp_V (df ci) j) ∧ ∀ ua, (df ci).map (sx_up ua) = df ci) {own : String} {isI : Bool} {i : Instr} {len a b : Nat} {t : List Nat} (h : sx_chkI cl tf nt zs ks own isI i len a b t = true) : sx_okI sx_tw sx_xw cl ft df tf nt zs ks own isI i len a b := by
  cases i with
  | getfield idx =>
    simp only [sx_chkI, Bool.and_eq_true, beq_iff_eq] at h
    obtain ⟨h1, h⟩ := h
    split at h
    · rename_i q hq
      simp only [Bool.and_eq_true, decide_eq_true_eq] at h
      exact ⟨h1, q.1, q.2.1, q.2.2, hC _ _ _ _ hq, h.1, sx_chkF_ok h.2⟩
    · cases h
  | putfield idx =>
    simp only [sx_chkI, Bool.and_eq_true, beq_iff_eq] at h
    obtain ⟨h1, h⟩ := h
    split at h
    · rename_i q hq
      simp only [Bool.and_eq_true, decide_eq_true_eq, Bool.or_eq_true, Bool.not_eq_true', beq_iff_eq] at h
      refine ⟨h1, q.1, q.2.1, q.2.2, hC _ _ _ _ hq, h.1.1, sx_chkF_ok h.1.2, ?_⟩
      cases hz : (q.2.1 b).2.2.2 with
      | false => exact Or.inl rfl
      | true =>
        rcases h.2 with h3 | h3
        · rw [hz] at h3
          cases h3
        · exact Or.inr ⟨rfl, h3⟩
    · cases h
  | new idx =>
    simp only [sx_chkI, Bool.and_eq_true, beq_iff_eq, Bool.or_eq_true, bne_iff_ne] at h
    obtain ⟨h1, h⟩ := h
    refine ⟨h1, fun hb => ?_⟩
    rcases h with h | h
    · exact absurd hb h
    · split at h
      · rename_i q hq
        simp only [Bool.and_eq_true] at h
        obtain ⟨d1, d2, d3⟩ := hdf _ _ _ _ hq
        exact ⟨q.1, q.2.1, q.2.2, hC _ _ _ _ hq, sx_hT_ok h.1.1, sx_hT_ok h.1.2, sx_hT_ok h.2, d1, d2, d3⟩
      · cases h
  | newarray ty =>
    simp only [sx_chkI, Bool.and_eq_true, beq_iff_eq, decide_eq_true_eq] at h
    exact ⟨h.1.1.1, sx_hT_ok h.1.1.2, h.1.2, h.2⟩
  | anewarray idx =>
    simp only [sx_chkI, Bool.and_eq_true, beq_iff_eq, decide_eq_true_eq] at h
    obtain ⟨⟨h1, h2⟩, h⟩ := h
    split at h
    · rename_i C hq
      simp only [Bool.and_eq_true] at h
      exact ⟨h1, C, hq, h2, sx_hT_ok h.1, sx_hX_ok h.2⟩
    · cases h
  | getstatic idx =>
    simp only [sx_chkI, Bool.and_eq_true, beq_iff_eq] at h
    refine ⟨h.1, fun z hz => ?_⟩
    have h2 := h.2
    rw [hz] at h2
    exact sx_hT_ok h2
  | ldc idx =>
    simp only [sx_chkI, Bool.and_eq_true, beq_iff_eq, Bool.or_eq_true, bne_iff_ne] at h
    obtain ⟨h1, h⟩ := h
    refine ⟨h1, fun hb => ?_⟩
    rcases h with h | h
    · exact absurd hb h
    · split at h
      · rename_i v hv
        exact ⟨v, hv, sx_hT_ok h⟩
      · cases h
  | checkcast idx =>
    simp only [sx_chkI, Bool.and_eq_true, beq_iff_eq] at h
    refine ⟨h.1, fun z hz => ?_⟩
    have h2 := h.2
    rw [hz] at h2
    exact sx_hT_ok h2
  | ldc_w idx =>
    simp only [sx_chkI, Bool.and_eq_true, beq_iff_eq] at h
    obtain ⟨h1, h⟩ := h
    split at h
    · rename_i v hv
      exact ⟨h1, v, hv, sx_hT_ok h⟩
    · cases h
  | ldc2_w idx =>
    simp only [sx_chkI, Bool.and_eq_true, beq_iff_eq] at h
    obtain ⟨h1, h⟩ := h
    split at h
    · rename_i v hv
      exact ⟨h1, v, hv, sx_hT_ok h⟩
    · cases h
  | arraylength => exact eq_of_beq h
  | iaload => exact eq_of_beq h
  | baload => exact eq_of_beq h
  | caload => exact eq_of_beq h
  | laload => exact eq_of_beq h
  | aaload => exact eq_of_beq h
  | iastore => exact eq_of_beq h
  | bastore => exact eq_of_beq h
  | castore => exact eq_of_beq h
  | lastore => exact eq_of_beq h
  | aastore => exact eq_of_beq h
  | _ => trivial
theorem sx_chkJ_ok {own : String} {i : Instr} {len a b : Nat} {t : List Nat} (h : sx_chkJ cl mt own i len a b t = true) : sx_okJ sx_tw sx_xw cl mt own i len a b := by
  cases i with
  | invokevirtual idx =>
    simp only [sx_chkJ, Bool.and_eq_true, beq_iff_eq] at h
    refine ⟨h.1, fun M' hM => ?_⟩
    have h2 := h.2
    rw [hM] at h2
    simp only [Bool.and_eq_true] at h2
    obtain ⟨⟨⟨g1, g2⟩, g5⟩, g4⟩ := h2
    split at g4
    · rename_i r hr
      exact ⟨((Bool.or_eq_true _ _).mp g1).imp sx_hT_ok (fun z => ⟨_, sx_hX_ok z⟩), sx_hT_ok g2, List.isEmpty_iff.mp g5, r, hr, sx_hT_ok g4⟩
    · cases g4
  | invokestatic idx =>
    simp only [sx_chkJ, Bool.and_eq_true, beq_iff_eq] at h
    refine ⟨h.1, fun M' hM => ?_⟩
    have h2 := h.2
    rw [hM] at h2
    simp only [Bool.and_eq_true] at h2
    exact ⟨sx_hT_ok h2.1, sx_hT_ok h2.2⟩
  | invokespecial idx =>
    simp only [sx_chkJ, Bool.and_eq_true, beq_iff_eq] at h
    refine ⟨h.1, fun hb => ?_, fun hb hb1 M' hM => ?_, fun hb M' hM => ?_⟩
    · have h2 := h.2
      rw [if_pos hb] at h2
      simp only [Bool.and_eq_true] at h2
      exact ⟨sx_hT_ok h2.1.1, sx_hT_ok h2.1.2, sx_hT_ok h2.2⟩
    · have h2 := h.2
      rw [if_neg hb, if_neg (by omega), hM] at h2
      simp only [Bool.and_eq_true, beq_iff_eq, decide_eq_true_eq, Bool.or_eq_true] at h2
      exact ⟨sx_hT_ok h2.1.1.1.1, h2.1.1.1.2, h2.1.1.2, List.isEmpty_iff.mp h2.1.2, h2.2.imp sx_hT_ok (fun z => ⟨_, sx_hX_ok z⟩)⟩
    · have h2 := h.2
      rw [if_neg (by omega), if_pos hb, hM] at h2
      simp only [Bool.and_eq_true, bne_iff_ne] at h2
      obtain ⟨⟨⟨⟨⟨g1, g2⟩, g3⟩, g4⟩, g5⟩, g6⟩ := h2
      exact ⟨sx_hT_ok g1, g2, List.isEmpty_iff.mp g3, sx_hT_ok g4, sx_hT_ok g5, sx_hT_ok g6⟩
  | _ => trivial
theorem sx_chkN_ok {own : String} {cc : ByteArray} {pc : Nat} {i : Instr} {t : List Nat} (h : sx_chkN tf own cc pc i t = true) : sx_okN sx_tw sx_xw tf own cc pc i := by
  cases i with
  | ldc idx =>
    simp only [sx_chkN, Bool.and_eq_true] at h
    obtain ⟨g0, h⟩ := h
    split at h
    · rename_i off hoff
      exact ⟨sx_hT_ok g0, off, (((pc + 2 : Nat) : Int) + off).toNat, hoff, (Int.toNat_of_nonneg (of_decide_eq_true h)).symm⟩
    · cases h
  | invokevirtual idx =>
    simp only [sx_chkN, Bool.and_eq_true, beq_iff_eq] at h
    obtain ⟨⟨⟨⟨⟨g1, g2⟩, g3⟩, g4⟩, g5⟩, g6⟩ := h
    exact ⟨sx_hT_ok g1, sx_hX_ok g2, sx_hT_ok g3, sx_hT_ok g4, sx_hT_ok g5, g6⟩
  | invokestatic idx =>
    simp only [sx_chkN, Bool.and_eq_true] at h
    obtain ⟨⟨⟨g1, g2⟩, g3⟩, g4⟩ := h
    exact ⟨sx_hT_ok g1, sx_hT_ok g2, sx_hT_ok g3, sx_hT_ok g4⟩
  | getstatic idx =>
    simp only [sx_chkN, Bool.and_eq_true] at h
    obtain ⟨g0, h⟩ := h
    split at h
    · rename_i ic hic
      simp only [Bool.and_eq_true, decide_eq_true_eq] at h
      obtain ⟨⟨⟨⟨⟨⟨⟨⟨⟨⟨g1, g2⟩, g3⟩, g4⟩, g5⟩, g6⟩, g7⟩, g8⟩, g9⟩, g10⟩, g11⟩ := h
      exact ⟨sx_hT_ok g0, ic, prog_43_method_11_code, hic, sx_hT_ok g1, sx_hT_ok g2, sx_hT_ok g3, sx_hT_ok g4, g5, g6, g7, g8, g9, g10, g11⟩
    · cases h
  | _ => trivial
theorem sx_chkT_ok {own : String} {cc : ByteArray} {pc : Nat} {i : Instr} {a b : Nat} {t : List Nat} (hexA : ∀ (j : Nat) (X : String), ex[j]? = some X → ∀ w ∈ sx_exA X (exn j), w ∈ sx_tw ∨ w ∈ sx_xw ∨ w ∈ sx_ew) (h : sx_chkT ex exn own cc pc i a b t = true) : sx_okT sx_tw sx_xw ex own cc pc i a b := by
  cases i with
  | new idx =>
    intro hb
    simp only [sx_chkT, Bool.or_eq_true, bne_iff_ne] at h
    rcases h with h | h
    · exact absurd hb h
    · split at h
      · rename_i X ic hX hic
        simp only [Bool.and_eq_true, decide_eq_true_eq, List.all_eq_true, Bool.or_eq_true] at h
        obtain ⟨⟨⟨⟨⟨⟨⟨⟨g1, g2⟩, g3⟩, g4⟩, g5⟩, g6⟩, g7⟩, g8⟩, g9⟩ := h
        exact ⟨X, exn a, ic, hX, g1, g2, g3, sx_hT_ok g4, sx_hT_ok g5, sx_hT_ok g6, g7, hic, g8, fun w hw => by
          rcases sx_exA_of hw with rfl | z
          · exact Or.inl (sx_hT_ok g9)
          · exact hexA a X hX w z⟩
      · cases h
  | _ => trivial
theorem sx_chkH_ok {own : String} {hh : List (Nat × Nat × Nat × Nat × List Nat)} (h : sx_chkH ex nc hn own hh = true) : sx_okH sx_tw sx_xw ex nc own hh := by
  intro q hq
  simp only [sx_chkH, List.all_eq_true, Bool.and_eq_true, bne_iff_ne] at h
  obtain ⟨⟨h1, h2⟩, h3⟩ := h q hq
  refine ⟨h1, hn q.2.2.2.1, sx_inT_ok h2, fun j X hj => ?_⟩
  have hjl : j < ex.length := (List.getElem?_eq_some_iff.mp hj).1
  have h4 := h3 j (List.mem_range.mpr hjl)
  rw [hj] at h4
  dsimp only at h4
  by_cases hm : j ∈ q.2.2.2.2
  · rw [if_pos hm] at h4 ⊢
    exact sx_inX_ok h4
  · rw [if_neg hm] at h4 ⊢
    exact of_decide_eq_true h4
theorem sx_chkM_ok (hC : ∀ ci C T N, cl[ci]? = some (C, T, N) → sx_okC sx_tw cl ft ci C T N) (hdf : ∀ ci C T N, cl[ci]? = some (C, T, N) → (df ci).length = N ∧ (∀ j, j < N → defaultValue (ft ci j) = vp_V (df ci) j) ∧ ∀ ua, (df ci).map (sx_up ua) = df ci) {y : MethodName} {cc : ByteArray} {mL : Nat} {ret : Option FieldType} {na : Nat} {isI : Bool} {L : List sx_Q} {hh : List (Nat × Nat × Nat × Nat × List Nat)} {t : List Nat} (hexA : ∀ (j : Nat) (X : String), ex[j]? = some X → ∀ w ∈ sx_exA X (exn j), w ∈ sx_tw ∨ w ∈ sx_xw ∨ w ∈ sx_ew) (h : sx_chkM Kw ex nc hn y cc mL ret na isI L hh t = true) (h9 : sx_chkL cl tf nt zs ks mt ex exn y cc isI hh L = true) : sx_okM sx_tw sx_xw cl ft df tf nt zs ks mt Kw ex nc (y, cc, mL, ret, na, isI, sx_cd L, hh) := by
  simp only [sx_chkM, Bool.and_eq_true, decide_eq_true_eq, bne_iff_ne, Bool.or_eq_true, Bool.not_eq_true', beq_iff_eq] at h
  simp only [sx_chkL, Bool.and_eq_true, decide_eq_true_eq, Bool.or_eq_true, Bool.not_eq_true', List.all_eq_true] at h9
  obtain ⟨⟨⟨⟨⟨⟨⟨⟨h1, h2⟩, h3⟩, h4⟩, h5⟩, h6⟩, h7⟩, h8⟩, h10⟩ := h
  refine ⟨h1, sx_hT_ok h2, sx_hT_ok h3, ⟨h4, h5, h6⟩, h7, fun hi => ?_, sx_chkH_ok h10, fun pc i len a b hc => ?_⟩
  · rcases h8 with h8 | h8
    · dsimp only at hi
      rw [hi] at h8
      cases h8
    · exact h8
  · obtain ⟨t9, ht9⟩ := sx_cd_mem hc
    obtain ⟨⟨⟨⟨⟨g1, g2⟩, g3⟩, g4⟩, g5⟩, g6⟩ := h9 _ ht9
    refine ⟨g1, sx_chkI_ok hC hdf g2, sx_chkJ_ok g3, fun hk => ?_, sx_chkT_ok hexA g5, fun hk => ?_⟩
    · rcases g4 with g4 | g4
      · dsimp only at g4
        rw [hk] at g4
        cases g4
      · exact List.isEmpty_iff.mp g4
    · rcases g6 with g6 | g6
      · dsimp only at g6
        rw [hk] at g6
        cases g6
      · exact sx_chkN_ok g6
end SXCHO
