/-! A METHOD'S NUMBERS, CHECKED BY THE KERNEL -/
def sx_cd (L : List (Nat × Instr × Nat × Nat × Nat)) (pc : Nat) : Option (Instr × Nat × Nat × Nat) := match L with
  | [] => none
  | q :: r => if q.1 = pc then some q.2 else sx_cd r pc
theorem sx_cd_mem {L : List (Nat × Instr × Nat × Nat × Nat)} {pc : Nat} {I : Instr × Nat × Nat × Nat} (h : sx_cd L pc = some I) : (pc, I) ∈ L := by
  induction L with
  | nil => cases h
  | cons q r ih =>
    unfold sx_cd at h
    by_cases hq : q.1 = pc
    · rw [if_pos hq] at h
      cases h
      subst hq
      exact List.mem_cons_self
    · rw [if_neg hq] at h
      exact List.mem_cons_of_mem _ (ih h)
def sx_tw : List Cond := lw_tbl.filter goodWord
def sx_xw : List Cond := lw_tbl.filter sx_xk
def sx_inT (w : Cond) : Bool := decide (w ∈ lw_tbl) && goodWord w
def sx_inX (w : Cond) : Bool := decide (w ∈ lw_tbl) && sx_xk w
theorem sx_inT_ok {w : Cond} (h : sx_inT w = true) : w ∈ sx_tw := by
  simp only [sx_inT, Bool.and_eq_true, decide_eq_true_eq] at h
  exact List.mem_filter.mpr h
theorem sx_inX_ok {w : Cond} (h : sx_inX w = true) : w ∈ sx_xw := by
  simp only [sx_inX, Bool.and_eq_true, decide_eq_true_eq] at h
  exact List.mem_filter.mpr h
theorem sx_tw_good : ∀ w ∈ sx_tw, goodWord w = true := fun _ h => (List.mem_filter.mp h).2
theorem sx_xw_kind : ∀ w ∈ sx_xw, sx_xk w = true := fun _ h => (List.mem_filter.mp h).2
section SXCHK
variable (cl : List vw_C) (ft : Nat → Nat → FieldType) (df : Nat → List Value) (tf : Nat → FieldType) (nt : Nat) (zs : List (String × String × String × Value)) (ks : Nat → Int32) (mt : Nat → Option sx_M) (Kw : Nat)
def sx_chkI (own : String) (isI : Bool) (i : Instr) (len a b : Nat) : Bool := match i with
  | .getfield idx => len == 3 && (match cl[a]? with
    | some q => decide (b < q.2.2) && sx_inT (.fieldLink own idx (q.2.1 b).1 (q.2.1 b).2.1 (q.2.1 b).2.2.1)
    | none => false)
  | .putfield idx => len == 3 && (match cl[a]? with
    | some q => decide (b < q.2.2) && sx_inT (.fieldLink own idx (q.2.1 b).1 (q.2.1 b).2.1 (q.2.1 b).2.2.1) && (!(q.2.1 b).2.2.2 || (isI && (q.2.1 b).1 == own))
    | none => false)
  | .new idx => len == 3 && b == 0 && (match cl[a]? with
    | some q => sx_inT (.classLink own idx q.1) && sx_inT (.instantiable q.1 q.2.2) && sx_inT (.initialized q.1)
    | none => false)
  | .newarray t => len == 2 && sx_inT (.arrayClass (newarray.typeOf t)) && tf a == newarray.typeOf t && decide (a < nt)
  | .anewarray idx => len == 3 && decide (a < nt) && (match tf a with
    | .object C => sx_inT (.classLink own idx C) && sx_inX (.arrayOver (.object C))
    | _ => false)
  | .arraylength => len == 1
  | .iaload => len == 1
  | .baload => len == 1
  | .caload => len == 1
  | .laload => len == 1
  | .aaload => len == 1
  | .iastore => len == 1
  | .bastore => len == 1
  | .castore => len == 1
  | .lastore => len == 1
  | .aastore => len == 1
  | .getstatic idx => len == 3 && (match zs[a]? with
    | some z => sx_inT (.fieldLink own idx z.1 z.2.1 z.2.2.1)
    | none => true)
  | .ldc idx => len == 2 && sx_inT (.constant own idx (ks a))
  | _ => true
def sx_chkJ (own : String) (i : Instr) (len a b : Nat) : Bool := match i with
  | .invokevirtual idx => len == 3 && (match mt a with
    | some M' => sx_inT (.methodLink own idx M'.1) && sx_inT (.instanceMethod M'.1) && sx_inT (.selects M'.1.cls M'.1 M'.1) && (match cl[b]? with
      | some r => r.1 == M'.1.cls
      | none => false)
    | none => true)
  | .invokestatic idx => len == 3 && (match mt a with
    | some M' => sx_inT (.methodLink own idx M'.1) && sx_inT (.static M'.1)
    | none => true)
  | .invokespecial idx => len == 3 && (if b = 2 then sx_inT (.methodLink own idx Lib.objectInit) && sx_inT (.instanceMethod Lib.objectInit) && sx_inT (.code Lib.objectInit ⟨#[0xb1]⟩ 1 none) else (match mt a with
    | some M' => sx_inT (.instanceMethod M'.1) && M'.1.name == "<init>" && decide (M'.2.2.2.1 = none) && (sx_inT (.methodLink own idx M'.1) || sx_inX (.methodLinkNest own idx M'.1 "GuardNet"))
    | none => true))
  | _ => true
def sx_chkM (y : MethodName) (cc : ByteArray) (mL : Nat) (ret : Option FieldType) (na : Nat) (isI : Bool) (L : List (Nat × Instr × Nat × Nat × Nat)) : Bool :=
  plainName y.cls && sx_inT (.code y cc mL ret) && sx_inT (.initialized y.cls) && y.cls != "java/lang/invoke/MethodHandle" && y.cls != "java/lang/invoke/VarHandle" && decide ((parseMethodDescriptor y.desc).map (fun d => d.parameters.length) = some na) && decide (mL + 19 ≤ Kw) && (!isI || y.name == "<init>") &&
  L.all fun q => decide (decode cc q.1 = .ok (q.2.1, q.2.2.1)) && sx_chkI cl tf nt zs ks y.cls isI q.2.1 q.2.2.1 q.2.2.2.1 q.2.2.2.2 && sx_chkJ cl mt y.cls q.2.1 q.2.2.1 q.2.2.2.1 q.2.2.2.2
end SXCHK
section SXCHO
variable {cl : List vw_C} {ft : Nat → Nat → FieldType} {df : Nat → List Value} {tf : Nat → FieldType} {nt : Nat} {zs : List (String × String × String × Value)} {ks : Nat → Int32} {mt : Nat → Option sx_M} {Kw : Nat}
theorem sx_chkI_ok (hC : ∀ ci C T N, cl[ci]? = some (C, T, N) → sx_okC sx_tw cl ft ci C T N) (hdf : ∀ ci C T N, cl[ci]? = some (C, T, N) → (df ci).length = N ∧ (∀ j, j < N → defaultValue (ft ci j) = vp_V (df ci) j) ∧ ∀ ua, (df ci).map (sx_up ua) = df ci) {own : String} {isI : Bool} {i : Instr} {len a b : Nat} (h : sx_chkI cl tf nt zs ks own isI i len a b = true) : sx_okI sx_tw sx_xw cl ft df tf nt zs ks own isI i len a b := by
  cases i with
  | getfield idx =>
    simp only [sx_chkI, Bool.and_eq_true, beq_iff_eq] at h
    obtain ⟨h1, h⟩ := h
    split at h
    · rename_i q hq
      simp only [Bool.and_eq_true, decide_eq_true_eq] at h
      exact ⟨h1, q.1, q.2.1, q.2.2, hC _ _ _ _ hq, h.1, sx_inT_ok h.2⟩
    · cases h
  | putfield idx =>
    simp only [sx_chkI, Bool.and_eq_true, beq_iff_eq] at h
    obtain ⟨h1, h⟩ := h
    split at h
    · rename_i q hq
      simp only [Bool.and_eq_true, decide_eq_true_eq, Bool.or_eq_true, Bool.not_eq_true', beq_iff_eq] at h
      refine ⟨h1, q.1, q.2.1, q.2.2, hC _ _ _ _ hq, h.1.1, sx_inT_ok h.1.2, ?_⟩
      cases hz : (q.2.1 b).2.2.2 with
      | false => exact Or.inl rfl
      | true =>
        rcases h.2 with h3 | h3
        · rw [hz] at h3
          cases h3
        · exact Or.inr ⟨rfl, h3⟩
    · cases h
  | new idx =>
    simp only [sx_chkI, Bool.and_eq_true, beq_iff_eq] at h
    obtain ⟨⟨h1, hb⟩, h⟩ := h
    split at h
    · rename_i q hq
      simp only [Bool.and_eq_true] at h
      obtain ⟨d1, d2, d3⟩ := hdf _ _ _ _ hq
      exact ⟨h1, fun _ => ⟨q.1, q.2.1, q.2.2, hC _ _ _ _ hq, sx_inT_ok h.1.1, sx_inT_ok h.1.2, sx_inT_ok h.2, d1, d2, d3⟩⟩
    · cases h
  | newarray t =>
    simp only [sx_chkI, Bool.and_eq_true, beq_iff_eq, decide_eq_true_eq] at h
    exact ⟨h.1.1.1, sx_inT_ok h.1.1.2, h.1.2, h.2⟩
  | anewarray idx =>
    simp only [sx_chkI, Bool.and_eq_true, beq_iff_eq, decide_eq_true_eq] at h
    obtain ⟨⟨h1, h2⟩, h⟩ := h
    split at h
    · rename_i C hq
      simp only [Bool.and_eq_true] at h
      exact ⟨h1, C, hq, h2, sx_inT_ok h.1, sx_inX_ok h.2⟩
    · cases h
  | getstatic idx =>
    simp only [sx_chkI, Bool.and_eq_true, beq_iff_eq] at h
    refine ⟨h.1, fun z hz => ?_⟩
    have h2 := h.2
    rw [hz] at h2
    exact sx_inT_ok h2
  | ldc idx =>
    simp only [sx_chkI, Bool.and_eq_true, beq_iff_eq] at h
    exact ⟨h.1, sx_inT_ok h.2⟩
  | arraylength => exact eq_of_beq h
  | iaload => exact eq_of_beq h
  | baload => exact eq_of_beq h
  | caload => exact eq_of_beq h
  | laload => exact eq_of_beq h
  | aaload => exact eq_of_beq h
  | iastore => exact eq_of_beq h
  | bastore => exact eq_of_beq h
  | castore => exact eq_of_beq h
  | lastore => exact eq_of_beq h
  | aastore => exact eq_of_beq h
  | _ => trivial
theorem sx_chkJ_ok {own : String} {i : Instr} {len a b : Nat} (h : sx_chkJ cl mt own i len a b = true) : sx_okJ sx_tw sx_xw cl mt own i len a b := by
  cases i with
  | invokevirtual idx =>
    simp only [sx_chkJ, Bool.and_eq_true, beq_iff_eq] at h
    refine ⟨h.1, fun M' hM => ?_⟩
    have h2 := h.2
    rw [hM] at h2
    simp only [Bool.and_eq_true] at h2
    obtain ⟨⟨⟨g1, g2⟩, g3⟩, g4⟩ := h2
    split at g4
    · rename_i r hr
      exact ⟨sx_inT_ok g1, sx_inT_ok g2, sx_inT_ok g3, r, hr, eq_of_beq g4⟩
    · cases g4
  | invokestatic idx =>
    simp only [sx_chkJ, Bool.and_eq_true, beq_iff_eq] at h
    refine ⟨h.1, fun M' hM => ?_⟩
    have h2 := h.2
    rw [hM] at h2
    simp only [Bool.and_eq_true] at h2
    exact ⟨sx_inT_ok h2.1, sx_inT_ok h2.2⟩
  | invokespecial idx =>
    simp only [sx_chkJ, Bool.and_eq_true, beq_iff_eq] at h
    refine ⟨h.1, fun hb => ?_, fun hb M' hM => ?_⟩
    · have h2 := h.2
      rw [if_pos hb] at h2
      simp only [Bool.and_eq_true] at h2
      exact ⟨sx_inT_ok h2.1.1, sx_inT_ok h2.1.2, sx_inT_ok h2.2⟩
    · have h2 := h.2
      rw [if_neg hb, hM] at h2
      simp only [Bool.and_eq_true, beq_iff_eq, decide_eq_true_eq, Bool.or_eq_true] at h2
      exact ⟨sx_inT_ok h2.1.1.1, h2.1.1.2, h2.1.2, h2.2.imp sx_inT_ok (fun z => ⟨_, sx_inX_ok z⟩)⟩
  | _ => trivial
theorem sx_chkM_ok (hC : ∀ ci C T N, cl[ci]? = some (C, T, N) → sx_okC sx_tw cl ft ci C T N) (hdf : ∀ ci C T N, cl[ci]? = some (C, T, N) → (df ci).length = N ∧ (∀ j, j < N → defaultValue (ft ci j) = vp_V (df ci) j) ∧ ∀ ua, (df ci).map (sx_up ua) = df ci) {y : MethodName} {cc : ByteArray} {mL : Nat} {ret : Option FieldType} {na : Nat} {isI : Bool} {L : List (Nat × Instr × Nat × Nat × Nat)} (h : sx_chkM cl tf nt zs ks mt Kw y cc mL ret na isI L = true) : sx_okM sx_tw sx_xw cl ft df tf nt zs ks mt Kw (y, cc, mL, ret, na, isI, sx_cd L) := by
  simp only [sx_chkM, Bool.and_eq_true, decide_eq_true_eq, bne_iff_ne, Bool.or_eq_true, Bool.not_eq_true', beq_iff_eq, List.all_eq_true] at h
  obtain ⟨⟨⟨⟨⟨⟨⟨⟨h1, h2⟩, h3⟩, h4⟩, h5⟩, h6⟩, h7⟩, h8⟩, h9⟩ := h
  refine ⟨h1, sx_inT_ok h2, sx_inT_ok h3, ⟨h4, h5, h6⟩, h7, fun hi => ?_, fun pc i len a b hc => ?_⟩
  · rcases h8 with h8 | h8
    · dsimp only at hi
      rw [hi] at h8
      cases h8
    · exact h8
  · obtain ⟨⟨g1, g2⟩, g3⟩ := h9 _ (sx_cd_mem hc)
    exact ⟨g1, sx_chkI_ok hC hdf g2, sx_chkJ_ok g3⟩
end SXCHO
