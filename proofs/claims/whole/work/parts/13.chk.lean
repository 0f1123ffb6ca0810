/-! A METHOD'S NUMBERS, CHECKED BY THE KERNEL -/
def sx_cd (L : List (Nat × Instr × Nat × Nat × Nat)) (pc : Nat) : Option (Instr × Nat × Nat × Nat) := match L with
  | [] => none
  | q :: r => if q.1 = pc then some q.2 else sx_cd r pc
theorem sx_cd_mem {L : List (Nat × Instr × Nat × Nat × Nat)} {pc : Nat} {I : Instr × Nat × Nat × Nat} (h : sx_cd L pc = some I) : (pc, I) ∈ L := by
  induction L with
  | nil => cases h
  | cons q r ih =>
    unfold sx_cd at h
    by_cases hq : q.1 = pc
    · rw [if_pos hq] at h
      cases h
      subst hq
      exact List.mem_cons_self
    · rw [if_neg hq] at h
      exact List.mem_cons_of_mem _ (ih h)
def sx_all : List Cond := Cond.code x code maxLocals ret :: lw_tbl
def sx_tw : List Cond := sx_all.filter goodWord
def sx_xw : List Cond := lw_tbl.filter sx_xk
def sx_inT (w : Cond) : Bool := decide (w ∈ sx_all) && goodWord w
def sx_inX (w : Cond) : Bool := decide (w ∈ lw_tbl) && sx_xk w
theorem sx_inT_ok {w : Cond} (h : sx_inT w = true) : w ∈ sx_tw := by
  simp only [sx_inT, Bool.and_eq_true, decide_eq_true_eq] at h
  exact List.mem_filter.mpr h
theorem sx_inX_ok {w : Cond} (h : sx_inX w = true) : w ∈ sx_xw := by
  simp only [sx_inX, Bool.and_eq_true, decide_eq_true_eq] at h
  exact List.mem_filter.mpr h
theorem sx_tw_good : ∀ w ∈ sx_tw, goodWord w = true := fun _ h => (List.mem_filter.mp h).2
theorem sx_xw_kind : ∀ w ∈ sx_xw, sx_xk w = true := fun _ h => (List.mem_filter.mp h).2
section SXCHK
variable (cl : List vw_C) (ft : Nat → Nat → FieldType) (df : Nat → List Value) (tf : Nat → FieldType) (nt : Nat) (zs : List (String × String × String × Value)) (ks : Nat → Value) (mt : Nat → Option sx_M) (Kw : Nat) (ex : List String) (exn : Nat → List String) (nc : List (String × String)) (hn : Nat → String)
def sx_chkI (own : String) (isI : Bool) (i : Instr) (len a b : Nat) : Bool := match i with
  | .getfield idx => len == 3 && (match cl[a]? with
    | some q => decide (b < q.2.2) && sx_inT (.fieldLink own idx (q.2.1 b).1 (q.2.1 b).2.1 (q.2.1 b).2.2.1)
    | none => false)
  | .putfield idx => len == 3 && (match cl[a]? with
    | some q => decide (b < q.2.2) && sx_inT (.fieldLink own idx (q.2.1 b).1 (q.2.1 b).2.1 (q.2.1 b).2.2.1) && (!(q.2.1 b).2.2.2 || (isI && (q.2.1 b).1 == own))
    | none => false)
  | .new idx => len == 3 && (b != 0 || match cl[a]? with
    | some q => sx_inT (.classLink own idx q.1) && sx_inT (.instantiable q.1 q.2.2) && sx_inT (.initialized q.1)
    | none => false)
  | .newarray t => len == 2 && sx_inT (.arrayClass (newarray.typeOf t)) && tf a == newarray.typeOf t && decide (a < nt)
  | .anewarray idx => len == 3 && decide (a < nt) && (match tf a with
    | .object C => sx_inT (.classLink own idx C) && sx_inX (.arrayOver (.object C))
    | _ => false)
  | .arraylength => len == 1
  | .iaload => len == 1
  | .baload => len == 1
  | .caload => len == 1
  | .laload => len == 1
  | .aaload => len == 1
  | .iastore => len == 1
  | .bastore => len == 1
  | .castore => len == 1
  | .lastore => len == 1
  | .aastore => len == 1
  | .getstatic idx => len == 3 && (match zs[a]? with
    | some z => sx_inT (.fieldLink own idx z.1 z.2.1 z.2.2.1)
    | none => true)
  | .ldc idx => len == 2 && (match ks a with
    | .int v => sx_inT (.constant own idx v)
    | _ => false)
  | .ldc2_w idx => len == 3 && (match ks a with
    | .long v => sx_inT (.constantLong own idx v)
    | _ => false)
  | _ => true
def sx_chkJ (own : String) (i : Instr) (len a b : Nat) : Bool := match i with
  | .invokevirtual idx => len == 3 && (match mt a with
    | some M' => sx_inT (.methodLink own idx M'.1) && sx_inT (.instanceMethod M'.1) && sx_inT (.selects M'.1.cls M'.1 M'.1) && M'.2.2.2.2.2.2.2.isEmpty && (match cl[b]? with
      | some r => r.1 == M'.1.cls
      | none => false)
    | none => true)
  | .invokestatic idx => len == 3 && (match mt a with
    | some M' => sx_inT (.methodLink own idx M'.1) && sx_inT (.static M'.1)
    | none => true)
  | .invokespecial idx => len == 3 && (if b = 2 then sx_inT (.methodLink own idx Lib.objectInit) && sx_inT (.instanceMethod Lib.objectInit) && sx_inT (.code Lib.objectInit ⟨#[0xb1]⟩ 1 none) else (match mt a with
    | some M' => sx_inT (.instanceMethod M'.1) && M'.1.name == "<init>" && decide (M'.2.2.2.1 = none) && M'.2.2.2.2.2.2.2.isEmpty && (sx_inT (.methodLink own idx M'.1) || sx_inX (.methodLinkNest own idx M'.1 "GuardNet"))
    | none => true))
  | _ => true
def sx_chkT (own : String) (cc : ByteArray) (pc : Nat) (i : Instr) (a b : Nat) : Bool := match i with
  | .new idx => b != 1 || (match ex[a]?, decode cc (pc + 4) with
    | some X, .ok (.invokespecial ic, 3) => Bundle.fit X && (exn a).all Bundle.fit && decide ((exn a).length ≤ 2) && sx_inT (.classLink own idx X) && sx_inT (.instantiable X 6) && sx_inT (.initialized X) && decide (decode cc (pc + 3) = .ok (.dup, 1)) && decide (decode cc (pc + 7) = .ok (.athrow, 1)) && (Bundle.ownAtoms0 own ic X (exn a)).all (fun w => sx_inT w || sx_inX w || decide (w ∈ sx_ew))
    | _, _ => false)
  | _ => true
def sx_chkH (own : String) (hh : List (Nat × Nat × Nat × Nat × List Nat)) : Bool := hh.all fun h => h.2.2.2.1 != 0 && sx_inT (.classLink own h.2.2.2.1 (hn h.2.2.2.1)) && (List.range ex.length).all fun j => match ex[j]? with
    | some X => if j ∈ h.2.2.2.2 then sx_inX (.castable X (hn h.2.2.2.1)) else decide ((X, hn h.2.2.2.1) ∈ nc)
    | none => true
def sx_chkM (y : MethodName) (cc : ByteArray) (mL : Nat) (ret : Option FieldType) (na : Nat) (isI : Bool) (L : List (Nat × Instr × Nat × Nat × Nat)) (hh : List (Nat × Nat × Nat × Nat × List Nat)) : Bool :=
  plainName y.cls && sx_inT (sx_cw (y, cc, mL, ret, na, isI, sx_cd L, hh)) && sx_inT (.initialized y.cls) && y.cls != "java/lang/invoke/MethodHandle" && y.cls != "java/lang/invoke/VarHandle" && decide ((parseMethodDescriptor y.desc).map (fun d => d.parameters.length) = some na) && decide (mL + 19 ≤ Kw) && (!isI || y.name == "<init>") && sx_chkH ex nc hn y.cls hh &&
  L.all fun q => decide (decode cc q.1 = .ok (q.2.1, q.2.2.1)) && sx_chkI cl tf nt zs ks y.cls isI q.2.1 q.2.2.1 q.2.2.2.1 q.2.2.2.2 && sx_chkJ cl mt y.cls q.2.1 q.2.2.1 q.2.2.2.1 q.2.2.2.2 && (!(sx_kd q.2.1 q.2.2.2.2 == 4) || hh.isEmpty) && sx_chkT ex exn y.cls cc q.1 q.2.1 q.2.2.2.1 q.2.2.2.2
end SXCHK
section SXCHO
variable {cl : List vw_C} {ft : Nat → Nat → FieldType} {df : Nat → List Value} {tf : Nat → FieldType} {nt : Nat} {zs : List (String × String × String × Value)} {ks : Nat → Value} {mt : Nat → Option sx_M} {Kw : Nat} {ex : List String} {exn : Nat → List String} {nc : List (String × String)} {hn : Nat → String}
theorem sx_chkI_ok (hC : ∀ ci C T N, cl[ci]? = some (C, T, N) → sx_okC sx_tw cl ft ci C T N) (hdf : ∀ ci C T N, cl[ci]? = some (C, T, N) → (df ci).length = N ∧ (∀ j, j < N → defaultValue (ft ci j) = vp_V (df ci) j) ∧ ∀ ua, (df ci).map (sx_up ua) = df ci) {own : String} {isI : Bool} {i : Instr} {len a b : Nat} (h : sx_chkI cl tf nt zs ks own isI i len a b = true) : sx_okI sx_tw sx_xw cl ft df tf nt zs ks own isI i len a b := by
  cases i with
  | getfield idx =>
    simp only [sx_chkI, Bool.and_eq_true, beq_iff_eq] at h
    obtain ⟨h1, h⟩ := h
    split at h
    · rename_i q hq
      simp only [Bool.and_eq_true, decide_eq_true_eq] at h
      exact ⟨h1, q.1, q.2.1, q.2.2, hC _ _ _ _ hq, h.1, sx_inT_ok h.2⟩
    · cases h
  | putfield idx =>
    simp only [sx_chkI, Bool.and_eq_true, beq_iff_eq] at h
    obtain ⟨h1, h⟩ := h
    split at h
    · rename_i q hq
      simp only [Bool.and_eq_true, decide_eq_true_eq, Bool.or_eq_true, Bool.not_eq_true', beq_iff_eq] at h
      refine ⟨h1, q.1, q.2.1, q.2.2, hC _ _ _ _ hq, h.1.1, sx_inT_ok h.1.2, ?_⟩
      cases hz : (q.2.1 b).2.2.2 with
      | false => exact Or.inl rfl
      | true =>
        rcases h.2 with h3 | h3
        · rw [hz] at h3
          cases h3
        · exact Or.inr ⟨rfl, h3⟩
    · cases h
  | new idx =>
    simp only [sx_chkI, Bool.and_eq_true, beq_iff_eq, Bool.or_eq_true, bne_iff_ne] at h
    obtain ⟨h1, h⟩ := h
    refine ⟨h1, fun hb => ?_⟩
    rcases h with h | h
    · exact absurd hb h
    · split at h
      · rename_i q hq
        simp only [Bool.and_eq_true] at h
        obtain ⟨d1, d2, d3⟩ := hdf _ _ _ _ hq
        exact ⟨q.1, q.2.1, q.2.2, hC _ _ _ _ hq, sx_inT_ok h.1.1, sx_inT_ok h.1.2, sx_inT_ok h.2, d1, d2, d3⟩
      · cases h
  | newarray t =>
    simp only [sx_chkI, Bool.and_eq_true, beq_iff_eq, decide_eq_true_eq] at h
    exact ⟨h.1.1.1, sx_inT_ok h.1.1.2, h.1.2, h.2⟩
  | anewarray idx =>
    simp only [sx_chkI, Bool.and_eq_true, beq_iff_eq, decide_eq_true_eq] at h
    obtain ⟨⟨h1, h2⟩, h⟩ := h
    split at h
    · rename_i C hq
      simp only [Bool.and_eq_true] at h
      exact ⟨h1, C, hq, h2, sx_inT_ok h.1, sx_inX_ok h.2⟩
    · cases h
  | getstatic idx =>
    simp only [sx_chkI, Bool.and_eq_true, beq_iff_eq] at h
    refine ⟨h.1, fun z hz => ?_⟩
    have h2 := h.2
    rw [hz] at h2
    exact sx_inT_ok h2
  | ldc idx =>
    simp only [sx_chkI, Bool.and_eq_true, beq_iff_eq] at h
    obtain ⟨h1, h⟩ := h
    split at h
    · rename_i v hv
      exact ⟨h1, v, hv, sx_inT_ok h⟩
    · cases h
  | ldc2_w idx =>
    simp only [sx_chkI, Bool.and_eq_true, beq_iff_eq] at h
    obtain ⟨h1, h⟩ := h
    split at h
    · rename_i v hv
      exact ⟨h1, v, hv, sx_inT_ok h⟩
    · cases h
  | arraylength => exact eq_of_beq h
  | iaload => exact eq_of_beq h
  | baload => exact eq_of_beq h
  | caload => exact eq_of_beq h
  | laload => exact eq_of_beq h
  | aaload => exact eq_of_beq h
  | iastore => exact eq_of_beq h
  | bastore => exact eq_of_beq h
  | castore => exact eq_of_beq h
  | lastore => exact eq_of_beq h
  | aastore => exact eq_of_beq h
  | _ => trivial
theorem sx_chkJ_ok {own : String} {i : Instr} {len a b : Nat} (h : sx_chkJ cl mt own i len a b = true) : sx_okJ sx_tw sx_xw cl mt own i len a b := by
  cases i with
  | invokevirtual idx =>
    simp only [sx_chkJ, Bool.and_eq_true, beq_iff_eq] at h
    refine ⟨h.1, fun M' hM => ?_⟩
    have h2 := h.2
    rw [hM] at h2
    simp only [Bool.and_eq_true] at h2
    obtain ⟨⟨⟨⟨g1, g2⟩, g3⟩, g5⟩, g4⟩ := h2
    split at g4
    · rename_i r hr
      exact ⟨sx_inT_ok g1, sx_inT_ok g2, sx_inT_ok g3, List.isEmpty_iff.mp g5, r, hr, eq_of_beq g4⟩
    · cases g4
  | invokestatic idx =>
    simp only [sx_chkJ, Bool.and_eq_true, beq_iff_eq] at h
    refine ⟨h.1, fun M' hM => ?_⟩
    have h2 := h.2
    rw [hM] at h2
    simp only [Bool.and_eq_true] at h2
    exact ⟨sx_inT_ok h2.1, sx_inT_ok h2.2⟩
  | invokespecial idx =>
    simp only [sx_chkJ, Bool.and_eq_true, beq_iff_eq] at h
    refine ⟨h.1, fun hb => ?_, fun hb M' hM => ?_⟩
    · have h2 := h.2
      rw [if_pos hb] at h2
      simp only [Bool.and_eq_true] at h2
      exact ⟨sx_inT_ok h2.1.1, sx_inT_ok h2.1.2, sx_inT_ok h2.2⟩
    · have h2 := h.2
      rw [if_neg hb, hM] at h2
      simp only [Bool.and_eq_true, beq_iff_eq, decide_eq_true_eq, Bool.or_eq_true] at h2
      exact ⟨sx_inT_ok h2.1.1.1.1, h2.1.1.1.2, h2.1.1.2, List.isEmpty_iff.mp h2.1.2, h2.2.imp sx_inT_ok (fun z => ⟨_, sx_inX_ok z⟩)⟩
  | _ => trivial
theorem sx_chkT_ok {own : String} {cc : ByteArray} {pc : Nat} {i : Instr} {a b : Nat} (h : sx_chkT ex exn own cc pc i a b = true) : sx_okT sx_tw sx_xw ex own cc pc i a b := by
  cases i with
  | new idx =>
    intro hb
    simp only [sx_chkT, Bool.or_eq_true, bne_iff_ne] at h
    rcases h with h | h
    · exact absurd hb h
    · split at h
      · rename_i X ic hX hic
        simp only [Bool.and_eq_true, decide_eq_true_eq, List.all_eq_true, Bool.or_eq_true] at h
        obtain ⟨⟨⟨⟨⟨⟨⟨⟨g1, g2⟩, g3⟩, g4⟩, g5⟩, g6⟩, g7⟩, g8⟩, g9⟩ := h
        exact ⟨X, exn a, ic, hX, g1, g2, g3, sx_inT_ok g4, sx_inT_ok g5, sx_inT_ok g6, g7, hic, g8, fun w hw => by
          rcases g9 w hw with (z | z) | z
          · exact Or.inl (sx_inT_ok z)
          · exact Or.inr (Or.inl (sx_inX_ok z))
          · exact Or.inr (Or.inr z)⟩
      · cases h
  | _ => trivial
theorem sx_chkH_ok {own : String} {hh : List (Nat × Nat × Nat × Nat × List Nat)} (h : sx_chkH ex nc hn own hh = true) : sx_okH sx_tw sx_xw ex nc own hh := by
  intro q hq
  simp only [sx_chkH, List.all_eq_true, Bool.and_eq_true, bne_iff_ne] at h
  obtain ⟨⟨h1, h2⟩, h3⟩ := h q hq
  refine ⟨h1, hn q.2.2.2.1, sx_inT_ok h2, fun j X hj => ?_⟩
  have hjl : j < ex.length := (List.getElem?_eq_some_iff.mp hj).1
  have h4 := h3 j (List.mem_range.mpr hjl)
  rw [hj] at h4
  dsimp only at h4
  by_cases hm : j ∈ q.2.2.2.2
  · rw [if_pos hm] at h4 ⊢
    exact sx_inX_ok h4
  · rw [if_neg hm] at h4 ⊢
    exact of_decide_eq_true h4
theorem sx_chkM_ok (hC : ∀ ci C T N, cl[ci]? = some (C, T, N) → sx_okC sx_tw cl ft ci C T N) (hdf : ∀ ci C T N, cl[ci]? = some (C, T, N) → (df ci).length = N ∧ (∀ j, j < N → defaultValue (ft ci j) = vp_V (df ci) j) ∧ ∀ ua, (df ci).map (sx_up ua) = df ci) {y : MethodName} {cc : ByteArray} {mL : Nat} {ret : Option FieldType} {na : Nat} {isI : Bool} {L : List (Nat × Instr × Nat × Nat × Nat)} {hh : List (Nat × Nat × Nat × Nat × List Nat)} (h : sx_chkM cl tf nt zs ks mt Kw ex exn nc hn y cc mL ret na isI L hh = true) : sx_okM sx_tw sx_xw cl ft df tf nt zs ks mt Kw ex nc (y, cc, mL, ret, na, isI, sx_cd L, hh) := by
  simp only [sx_chkM, Bool.and_eq_true, decide_eq_true_eq, bne_iff_ne, Bool.or_eq_true, Bool.not_eq_true', beq_iff_eq, List.all_eq_true] at h
  obtain ⟨⟨⟨⟨⟨⟨⟨⟨⟨h1, h2⟩, h3⟩, h4⟩, h5⟩, h6⟩, h7⟩, h8⟩, h10⟩, h9⟩ := h
  refine ⟨h1, sx_inT_ok h2, sx_inT_ok h3, ⟨h4, h5, h6⟩, h7, fun hi => ?_, sx_chkH_ok h10, fun pc i len a b hc => ?_⟩
  · rcases h8 with h8 | h8
    · dsimp only at hi
      rw [hi] at h8
      cases h8
    · exact h8
  · obtain ⟨⟨⟨⟨g1, g2⟩, g3⟩, g4⟩, g5⟩ := h9 _ (sx_cd_mem hc)
    refine ⟨g1, sx_chkI_ok hC hdf g2, sx_chkJ_ok g3, fun hk => ?_, sx_chkT_ok g5⟩
    rcases g4 with g4 | g4
    · dsimp only at g4
      rw [hk] at g4
      cases g4
    · exact List.isEmpty_iff.mp g4
end SXCHO
