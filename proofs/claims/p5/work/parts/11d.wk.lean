/-! FEWER LOCALS DO: what a run does with some of the locals it does with all; so locals can be put in order and left out -/
def sx_le (l1 l : List (Nat × Value)) : Prop := (l1.map Prod.fst).Nodup ∧ ∀ i v, sx_lk l1 i = some v → sx_lk l i = some v
theorem sx_lk_of_mem {l : List (Nat × Value)} (hn : (l.map Prod.fst).Nodup) {i : Nat} {v : Value} (h : (i, v) ∈ l) : sx_lk l i = some v := by
  induction l with
  | nil => cases h
  | cons q r ih =>
    rw [List.map_cons, List.nodup_cons] at hn
    unfold sx_lk
    rcases List.mem_cons.mp h with e | h
    · subst e
      exact if_pos rfl
    · have hne : ¬ q.1 = i := fun e => hn.1 (by rw [e]; exact List.mem_map.mpr ⟨(i, v), h, rfl⟩)
      rw [if_neg hne]
      exact ih hn.2 h
theorem sx_lk_filter {l : List (Nat × Value)} {p : Nat × Value → Bool} {i : Nat} {v : Value} (h : sx_lk l i = some v) (hp : p (i, v) = true) : sx_lk (l.filter p) i = some v := by
  induction l with
  | nil => cases h
  | cons q r ih =>
    unfold sx_lk at h
    by_cases e : q.1 = i
    · rw [if_pos e] at h
      cases h
      subst e
      rw [List.filter_cons_of_pos hp]
      unfold sx_lk
      exact if_pos rfl
    · rw [if_neg e] at h
      by_cases z : p q = true
      · rw [List.filter_cons_of_pos z]
        unfold sx_lk
        rw [if_neg e]
        exact ih h
      · rw [List.filter_cons_of_neg z]
        exact ih h
theorem sx_le_cons {l1 l : List (Nat × Value)} (h : sx_le l1 l) (p : Nat × Value → Bool) (i : Nat) (v : Value) (hp : ∀ w, p (i, w) = false) : sx_le ((i, v) :: l1.filter p) ((i, v) :: l.filter p) := by
  refine ⟨?_, fun j w hj => ?_⟩
  · rw [List.map_cons, List.nodup_cons]
    refine ⟨fun hm => ?_, h.1.sublist (List.filter_sublist.map Prod.fst)⟩
    obtain ⟨⟨a, b⟩, h1, h2⟩ := List.mem_map.mp hm
    have h3 := (List.mem_filter.mp h1).2
    have h2 : a = i := h2
    subst h2
    rw [hp b] at h3
    cases h3
  · unfold sx_lk at hj ⊢
    by_cases e : i = j
    · rw [if_pos e] at hj ⊢
      exact hj
    · rw [if_neg e] at hj ⊢
      have hm := List.mem_filter.mp (sx_lk_mem hj)
      exact sx_lk_filter (h.2 j w (sx_lk_of_mem h.1 hm.1)) hm.2
theorem sx_le_s1 {l1 l : List (Nat × Value)} (h : sx_le l1 l) (i : Nat) (v : Value) : sx_le (sx_s1 l1 i v) (sx_s1 l i v) := sx_le_cons h _ i v (fun w => by simp)
theorem sx_le_s2 {l1 l : List (Nat × Value)} (h : sx_le l1 l) (i : Nat) (v : Value) : sx_le (sx_s2 l1 i v) (sx_s2 l i v) := sx_le_cons h _ i v (fun w => by simp)
/-- a step with more locals -/
def sx_N (g : List (Nat × Value) → Option sx_F) : Prop := ∀ l1 l F, g l1 = some F → F.2.1 = l1 ∧ g l = some (F.1, l, F.2.2)
theorem sx_N.use {g : List (Nat × Value) → Option sx_F} (hg : sx_N g) {l1 l : List (Nat × Value)} (hle : sx_le l1 l) {F : sx_F} (h : g l1 = some F) : ∃ l2, sx_le F.2.1 l2 ∧ g l = some (F.1, l2, F.2.2) := by
  obtain ⟨h1, h2⟩ := hg l1 l F h
  exact ⟨l, h1 ▸ hle, h2⟩
section SXN
variable {pc nL : Nat} {st : List Value}
theorem sx_N_jp {off : Int} : sx_N (fun l => sx_jp pc off l st) := by
  intro l1 l F h
  dsimp only at h ⊢
  unfold sx_jp at h ⊢
  by_cases z : 0 ≤ (pc : Int) + off
  · rw [if_pos z] at h ⊢
    cases h
    exact ⟨rfl, rfl⟩
  · rw [if_neg z] at h
    cases h
theorem sx_N_bb {off : Int} {r : List Value} {b : Bool} : sx_N (fun l => sx_bb pc off l r b) := by
  intro l1 l F h
  dsimp only at h ⊢
  unfold sx_bb at h ⊢
  by_cases z : 0 ≤ (pc : Int) + off
  · rw [if_pos z] at h ⊢
    cases b with
    | true =>
      cases h
      exact ⟨rfl, rfl⟩
    | false =>
      cases h
      exact ⟨rfl, rfl⟩
  · rw [if_neg z] at h
    cases h
theorem sx_N_b1 {off : Int} {f : Int32 → Bool} : sx_N (fun l => sx_b1 pc off l st f) := by
  intro l1 l F h
  obtain ⟨x, r, rfl, -⟩ := sx_b1_inv h
  exact sx_N_bb l1 l F h
theorem sx_N_b2 {off : Int} {f : Int32 → Int32 → Bool} : sx_N (fun l => sx_b2 pc off l st f) := by
  intro l1 l F h
  obtain ⟨x, y, r, rfl, -⟩ := sx_b2_inv h
  exact sx_N_bb l1 l F h
theorem sx_N_b0 {off : Int} {eq : Bool} : sx_N (fun l => sx_b0 pc off l st eq) := by
  intro l1 l F h
  obtain ⟨v, w, x, y, r, rfl, hv, hw, -⟩ := sx_b0_inv h
  dsimp only at h ⊢
  unfold sx_b0 at h ⊢
  dsimp only at h ⊢
  simp only [hv, hw] at h ⊢
  exact sx_N_bb l1 l F h
theorem sx_N_bn {off : Int} {n : Bool} : sx_N (fun l => sx_bn pc off l st n) := by
  intro l1 l F h
  obtain ⟨r, t, -, ⟨⟨a, rfl⟩, -⟩ | ⟨rfl, -⟩⟩ := sx_bn_inv h
  · exact sx_N_bb l1 l F h
  · exact sx_N_bb l1 l F h
theorem sx_N_sw {d lo hi : Int} {offs : Array Int} : sx_N (fun l => sx_sw pc l st d lo hi offs) := by
  intro l1 l F h
  obtain ⟨x, r, rfl, -⟩ := sx_sw_inv h
  dsimp only at h ⊢
  unfold sx_sw at h ⊢
  dsimp only at h ⊢
  by_cases z : x.toInt < lo ∨ hi < x.toInt
  · rw [if_pos z] at h ⊢
    exact sx_N_jp l1 l F h
  · rw [if_neg z] at h ⊢
    cases hq : offs[(x.toInt - lo).toNat]? with
    | none =>
      rw [hq] at h
      cases h
    | some o =>
      rw [hq] at h
      exact sx_N_jp l1 l F h
theorem sx_N_i1 {f : Int32 → Value} : sx_N (fun l => sx_i1 pc l st f) := by
  intro l1 l F h
  obtain ⟨x, r, rfl, rfl⟩ := sx_i1_inv h
  exact ⟨rfl, rfl⟩
theorem sx_N_l1 {f : Int64 → Value} : sx_N (fun l => sx_l1 pc l st f) := by
  intro l1 l F h
  obtain ⟨x, r, rfl, rfl⟩ := sx_l1_inv h
  exact ⟨rfl, rfl⟩
theorem sx_N_i2 {f : Int32 → Int32 → Value} : sx_N (fun l => sx_i2 pc l st f) := by
  intro l1 l F h
  obtain ⟨x, y, r, rfl, rfl⟩ := sx_i2_inv h
  exact ⟨rfl, rfl⟩
theorem sx_N_l2 {f : Int64 → Int64 → Value} : sx_N (fun l => sx_l2 pc l st f) := by
  intro l1 l F h
  obtain ⟨x, y, r, rfl, rfl⟩ := sx_l2_inv h
  exact ⟨rfl, rfl⟩
theorem sx_N_li {f : Int64 → Int32 → Value} : sx_N (fun l => sx_li pc l st f) := by
  intro l1 l F h
  obtain ⟨x, y, r, rfl, rfl⟩ := sx_li_inv h
  exact ⟨rfl, rfl⟩
theorem sx_N_i2z {f : Int32 → Int32 → Value} : sx_N (fun l => sx_i2z pc l st f) := by
  intro l1 l F h
  obtain ⟨x, y, r, rfl, hz, rfl⟩ := sx_i2z_inv h
  exact ⟨rfl, if_neg hz⟩
theorem sx_N_l2z {f : Int64 → Int64 → Value} : sx_N (fun l => sx_l2z pc l st f) := by
  intro l1 l F h
  obtain ⟨x, y, r, rfl, hz, rfl⟩ := sx_l2z_inv h
  exact ⟨rfl, if_neg hz⟩
theorem sx_if2 {a b : Nat} {o1 o : Option sx_F} {F : sx_F} {l1 l : List (Nat × Value)} (h : (if a = b then o1 else none) = some F) (k : o1 = some F → ∃ l2, sx_le F.2.1 l2 ∧ o = some (F.1, l2, F.2.2)) : ∃ l2, sx_le F.2.1 l2 ∧ (if a = b then o else none) = some (F.1, l2, F.2.2) := by
  obtain ⟨e, h⟩ := sx_if h
  obtain ⟨l2, h1, h2⟩ := k h
  exact ⟨l2, h1, by rw [if_pos e]; exact h2⟩
set_option maxHeartbeats 4000000 in
theorem sx_pure_le {i : Instr} {len : Nat} {l1 l : List (Nat × Value)} {F : sx_F} (hle : sx_le l1 l) (h : sx_pure nL i len pc l1 st = some F) : ∃ l2, sx_le F.2.1 l2 ∧ sx_pure nL i len pc l st = some (F.1, l2, F.2.2) := by
  cases i with
  | iconst n =>
    refine sx_if2 (l1 := l1) (l := l) h (fun h => ?_)
    cases h
    exact ⟨l, hle, rfl⟩
  | bipush n =>
    refine sx_if2 (l1 := l1) (l := l) h (fun h => ?_)
    cases h
    exact ⟨l, hle, rfl⟩
  | sipush n =>
    refine sx_if2 (l1 := l1) (l := l) h (fun h => ?_)
    cases h
    exact ⟨l, hle, rfl⟩
  | lconst n =>
    refine sx_if2 (l1 := l1) (l := l) h (fun h => ?_)
    cases h
    exact ⟨l, hle, rfl⟩
  | aconst_null =>
    refine sx_if2 (l1 := l1) (l := l) h (fun h => ?_)
    cases h
    exact ⟨l, hle, rfl⟩
  | iload_n n =>
    refine sx_if2 (l1 := l1) (l := l) h (fun h => ?_)
    obtain ⟨x, hx, rfl⟩ := sx_ldI_inv h
    exact ⟨l, hle, by unfold sx_ldI; rw [hle.2 _ _ hx]⟩
  | iload n =>
    refine sx_if2 (l1 := l1) (l := l) h (fun h => ?_)
    obtain ⟨x, hx, rfl⟩ := sx_ldI_inv h
    exact ⟨l, hle, by unfold sx_ldI; rw [hle.2 _ _ hx]⟩
  | lload_n n =>
    refine sx_if2 (l1 := l1) (l := l) h (fun h => ?_)
    obtain ⟨x, hx, rfl⟩ := sx_ldL_inv h
    exact ⟨l, hle, by unfold sx_ldL; rw [hle.2 _ _ hx]⟩
  | lload n =>
    refine sx_if2 (l1 := l1) (l := l) h (fun h => ?_)
    obtain ⟨x, hx, rfl⟩ := sx_ldL_inv h
    exact ⟨l, hle, by unfold sx_ldL; rw [hle.2 _ _ hx]⟩
  | aload_n n =>
    refine sx_if2 (l1 := l1) (l := l) h (fun h => ?_)
    rcases sx_ldA_inv h with ⟨x, hx, rfl⟩ | ⟨hx, rfl⟩
    · exact ⟨l, hle, by unfold sx_ldA; rw [hle.2 _ _ hx]⟩
    · exact ⟨l, hle, by unfold sx_ldA; rw [hle.2 _ _ hx]⟩
  | aload n =>
    refine sx_if2 (l1 := l1) (l := l) h (fun h => ?_)
    rcases sx_ldA_inv h with ⟨x, hx, rfl⟩ | ⟨hx, rfl⟩
    · exact ⟨l, hle, by unfold sx_ldA; rw [hle.2 _ _ hx]⟩
    · exact ⟨l, hle, by unfold sx_ldA; rw [hle.2 _ _ hx]⟩
  | istore_n n =>
    refine sx_if2 (l1 := l1) (l := l) h (fun h => ?_)
    obtain ⟨x, r, rfl, hn, rfl⟩ := sx_svI_inv h
    exact ⟨sx_s1 l _ (.int x), sx_le_s1 hle _ _, if_pos hn⟩
  | istore n =>
    refine sx_if2 (l1 := l1) (l := l) h (fun h => ?_)
    obtain ⟨x, r, rfl, hn, rfl⟩ := sx_svI_inv h
    exact ⟨sx_s1 l _ (.int x), sx_le_s1 hle _ _, if_pos hn⟩
  | lstore_n n =>
    refine sx_if2 (l1 := l1) (l := l) h (fun h => ?_)
    obtain ⟨x, r, rfl, hn, rfl⟩ := sx_svL_inv h
    exact ⟨sx_s2 l _ (.long x), sx_le_s2 hle _ _, if_pos hn⟩
  | lstore n =>
    refine sx_if2 (l1 := l1) (l := l) h (fun h => ?_)
    obtain ⟨x, r, rfl, hn, rfl⟩ := sx_svL_inv h
    exact ⟨sx_s2 l _ (.long x), sx_le_s2 hle _ _, if_pos hn⟩
  | astore_n n =>
    refine sx_if2 (l1 := l1) (l := l) h (fun h => ?_)
    rcases sx_svA_inv h with ⟨x, r, rfl, hn, rfl⟩ | ⟨r, rfl, hn, rfl⟩
    · exact ⟨sx_s1 l _ (.ref x), sx_le_s1 hle _ _, if_pos hn⟩
    · exact ⟨sx_s1 l _ .null, sx_le_s1 hle _ _, if_pos hn⟩
  | astore n =>
    refine sx_if2 (l1 := l1) (l := l) h (fun h => ?_)
    rcases sx_svA_inv h with ⟨x, r, rfl, hn, rfl⟩ | ⟨r, rfl, hn, rfl⟩
    · exact ⟨sx_s1 l _ (.ref x), sx_le_s1 hle _ _, if_pos hn⟩
    · exact ⟨sx_s1 l _ .null, sx_le_s1 hle _ _, if_pos hn⟩
  | iinc n k =>
    refine sx_if2 (l1 := l1) (l := l) h (fun h => ?_)
    obtain ⟨x, hx, hn, rfl⟩ := sx_inc_inv h
    exact ⟨sx_s1 l _ _, sx_le_s1 hle _ _, by unfold sx_inc; rw [hle.2 _ _ hx]; exact if_pos hn⟩
  | pop =>
    refine sx_if2 (l1 := l1) (l := l) h (fun h => ?_)
    split at h
    · split at h
      · rename_i hv
        cases h
        exact ⟨l, hle, if_pos hv⟩
      · cases h
    · cases h
  | dup =>
    refine sx_if2 (l1 := l1) (l := l) h (fun h => ?_)
    split at h
    · split at h
      · rename_i hv
        cases h
        exact ⟨l, hle, if_pos hv⟩
      · cases h
    · cases h
  | dup_x1 =>
    refine sx_if2 (l1 := l1) (l := l) h (fun h => ?_)
    split at h
    · split at h
      · rename_i hv
        cases h
        exact ⟨l, hle, if_pos hv⟩
      · cases h
    · cases h
  | dup2 =>
    refine sx_if2 (l1 := l1) (l := l) h (fun h => ?_)
    split at h
    · split at h
      · rename_i hv
        cases h
        exact ⟨l, hle, if_pos hv⟩
      · cases h
    · cases h
  | l2i =>
    refine sx_if2 (l1 := l1) (l := l) h (fun h => ?_)
    exact sx_N_l1.use hle h
  | lcmp =>
    refine sx_if2 (l1 := l1) (l := l) h (fun h => ?_)
    exact sx_N_l2.use hle h
  | ladd =>
    refine sx_if2 (l1 := l1) (l := l) h (fun h => ?_)
    exact sx_N_l2.use hle h
  | lsub =>
    refine sx_if2 (l1 := l1) (l := l) h (fun h => ?_)
    exact sx_N_l2.use hle h
  | lmul =>
    refine sx_if2 (l1 := l1) (l := l) h (fun h => ?_)
    exact sx_N_l2.use hle h
  | land =>
    refine sx_if2 (l1 := l1) (l := l) h (fun h => ?_)
    exact sx_N_l2.use hle h
  | lor =>
    refine sx_if2 (l1 := l1) (l := l) h (fun h => ?_)
    exact sx_N_l2.use hle h
  | lxor =>
    refine sx_if2 (l1 := l1) (l := l) h (fun h => ?_)
    exact sx_N_l2.use hle h
  | iadd =>
    refine sx_if2 (l1 := l1) (l := l) h (fun h => ?_)
    exact sx_N_i2.use hle h
  | isub =>
    refine sx_if2 (l1 := l1) (l := l) h (fun h => ?_)
    exact sx_N_i2.use hle h
  | imul =>
    refine sx_if2 (l1 := l1) (l := l) h (fun h => ?_)
    exact sx_N_i2.use hle h
  | iand =>
    refine sx_if2 (l1 := l1) (l := l) h (fun h => ?_)
    exact sx_N_i2.use hle h
  | ior =>
    refine sx_if2 (l1 := l1) (l := l) h (fun h => ?_)
    exact sx_N_i2.use hle h
  | ixor =>
    refine sx_if2 (l1 := l1) (l := l) h (fun h => ?_)
    exact sx_N_i2.use hle h
  | ishl =>
    refine sx_if2 (l1 := l1) (l := l) h (fun h => ?_)
    exact sx_N_i2.use hle h
  | ishr =>
    refine sx_if2 (l1 := l1) (l := l) h (fun h => ?_)
    exact sx_N_i2.use hle h
  | iushr =>
    refine sx_if2 (l1 := l1) (l := l) h (fun h => ?_)
    exact sx_N_i2.use hle h
  | lushr =>
    refine sx_if2 (l1 := l1) (l := l) h (fun h => ?_)
    exact sx_N_li.use hle h
  | lshl =>
    refine sx_if2 (l1 := l1) (l := l) h (fun h => ?_)
    exact sx_N_li.use hle h
  | lshr =>
    refine sx_if2 (l1 := l1) (l := l) h (fun h => ?_)
    exact sx_N_li.use hle h
  | i2l =>
    refine sx_if2 (l1 := l1) (l := l) h (fun h => ?_)
    exact sx_N_i1.use hle h
  | i2b =>
    refine sx_if2 (l1 := l1) (l := l) h (fun h => ?_)
    exact sx_N_i1.use hle h
  | i2s =>
    refine sx_if2 (l1 := l1) (l := l) h (fun h => ?_)
    exact sx_N_i1.use hle h
  | i2c =>
    refine sx_if2 (l1 := l1) (l := l) h (fun h => ?_)
    exact sx_N_i1.use hle h
  | ineg =>
    refine sx_if2 (l1 := l1) (l := l) h (fun h => ?_)
    exact sx_N_i1.use hle h
  | lneg =>
    refine sx_if2 (l1 := l1) (l := l) h (fun h => ?_)
    exact sx_N_l1.use hle h
  | idiv =>
    refine sx_if2 (l1 := l1) (l := l) h (fun h => ?_)
    exact sx_N_i2z.use hle h
  | irem =>
    refine sx_if2 (l1 := l1) (l := l) h (fun h => ?_)
    exact sx_N_i2z.use hle h
  | ldiv =>
    refine sx_if2 (l1 := l1) (l := l) h (fun h => ?_)
    exact sx_N_l2z.use hle h
  | lrem =>
    refine sx_if2 (l1 := l1) (l := l) h (fun h => ?_)
    exact sx_N_l2z.use hle h
  | goto off =>
    refine sx_if2 (l1 := l1) (l := l) h (fun h => ?_)
    exact sx_N_jp.use hle h
  | ifCond cd off =>
    cases cd with
    | eq =>
      refine sx_if2 (l1 := l1) (l := l) h (fun h => ?_)
      exact sx_N_b1.use hle h
    | ne =>
      refine sx_if2 (l1 := l1) (l := l) h (fun h => ?_)
      exact sx_N_b1.use hle h
    | lt =>
      refine sx_if2 (l1 := l1) (l := l) h (fun h => ?_)
      exact sx_N_b1.use hle h
    | ge =>
      refine sx_if2 (l1 := l1) (l := l) h (fun h => ?_)
      exact sx_N_b1.use hle h
    | gt =>
      refine sx_if2 (l1 := l1) (l := l) h (fun h => ?_)
      exact sx_N_b1.use hle h
    | le =>
      refine sx_if2 (l1 := l1) (l := l) h (fun h => ?_)
      exact sx_N_b1.use hle h
  | if_icmp cd off =>
    cases cd with
    | eq =>
      refine sx_if2 (l1 := l1) (l := l) h (fun h => ?_)
      exact sx_N_b2.use hle h
    | ne =>
      refine sx_if2 (l1 := l1) (l := l) h (fun h => ?_)
      exact sx_N_b2.use hle h
    | lt =>
      refine sx_if2 (l1 := l1) (l := l) h (fun h => ?_)
      exact sx_N_b2.use hle h
    | ge =>
      refine sx_if2 (l1 := l1) (l := l) h (fun h => ?_)
      exact sx_N_b2.use hle h
    | gt =>
      refine sx_if2 (l1 := l1) (l := l) h (fun h => ?_)
      exact sx_N_b2.use hle h
    | le =>
      refine sx_if2 (l1 := l1) (l := l) h (fun h => ?_)
      exact sx_N_b2.use hle h
  | if_acmp cd off =>
    cases cd with
    | eq =>
      refine sx_if2 (l1 := l1) (l := l) h (fun h => ?_)
      exact sx_N_b0.use hle h
    | ne =>
      refine sx_if2 (l1 := l1) (l := l) h (fun h => ?_)
      exact sx_N_b0.use hle h
  | ifnull off =>
    refine sx_if2 (l1 := l1) (l := l) h (fun h => ?_)
    exact sx_N_bn.use hle h
  | ifnonnull off =>
    refine sx_if2 (l1 := l1) (l := l) h (fun h => ?_)
    exact sx_N_bn.use hle h
  | tableswitch d lo hi offs =>
    exact sx_N_sw.use hle h
  | _ => cases h
end SXN
/-- what passes the locals through -/
def sx_O (g : List (Nat × Value) → Option sx_S) : Prop := ∀ l1 l S, g l1 = some S → S.1.2.1 = l1 ∧ g l = some ((S.1.1, l, S.1.2.2), S.2)
theorem sx_O_some {pc : Nat} {st : List Value} {q : sx_H × Nat × Nat} : sx_O (fun l => some ((pc, l, st), q)) := by
  intro l1 l S h
  cases h
  exact ⟨rfl, rfl⟩
theorem sx_O_none : sx_O (fun _ => none) := by
  intro l1 l S h
  cases h
theorem sx_O_bind {α : Type} {o : Option α} {g : α → List (Nat × Value) → Option sx_S} (h : ∀ x, sx_O (g x)) : sx_O (fun l => o.bind fun x => g x l) := by
  cases o with
  | none => exact sx_O_none
  | some x => exact h x
theorem sx_O_ite {c : Prop} [hd : Decidable c] {g : List (Nat × Value) → Option sx_S} (h : sx_O g) : sx_O (fun l => if c then g l else none) := by
  intro l1 l S e
  by_cases hc : c
  · dsimp only at e ⊢
    rw [if_pos hc] at e ⊢
    exact h l1 l S e
  · dsimp only at e
    rw [if_neg hc] at e
    cases e
section SXO2
variable {K0 : Nat} {ft : Nat → Nat → FieldType} {df : Nat → List Value} {tf : Nat → FieldType} {cst : Nat → Nat → Bool} {zs : List (String × String × String × Value)} {ks : Nat → Value} {mt : Nat → Option sx_M}
variable {a b pc nL : Nat} {st : List Value} {hs : sx_H}
theorem sx_O_getf : sx_O (fun l => sx_ogetf K0 a b pc l st hs) := sx_O_bind fun _ => sx_O_bind fun _ => sx_O_ite (sx_O_bind fun _ => sx_O_some)
theorem sx_O_putf : sx_O (fun l => sx_oputf K0 ft a b pc l st hs) := sx_O_bind fun _ => sx_O_bind fun _ => sx_O_bind fun _ => sx_O_ite sx_O_some
theorem sx_O_new : sx_O (fun l => sx_onew df a b pc l st hs) := sx_O_ite sx_O_some
theorem sx_O_newa {t : ArrayType} : sx_O (fun l => sx_onewa t a pc l st hs) := sx_O_bind fun _ => sx_O_ite (sx_O_bind fun _ => sx_O_some)
theorem sx_O_newq : sx_O (fun l => sx_onewq a pc l st hs) := sx_O_bind fun _ => sx_O_ite sx_O_some
theorem sx_O_alen : sx_O (fun l => sx_oalen pc l st hs) := sx_O_bind fun _ => sx_O_bind fun _ => sx_O_some
theorem sx_O_ald {ok : FieldType → Bool} : sx_O (fun l => sx_oald tf ok pc l st hs) := sx_O_bind fun _ => sx_O_bind fun _ => sx_O_bind fun _ => sx_O_ite sx_O_some
theorem sx_O_ast {ty : FieldType} {nw : Int32 → Int32} : sx_O (fun l => sx_oast K0 tf ty nw pc l st hs) := sx_O_bind fun _ => sx_O_bind fun _ => sx_O_bind fun _ => sx_O_bind fun _ => sx_O_bind fun _ => sx_O_ite sx_O_some
theorem sx_O_lst : sx_O (fun l => sx_olst K0 tf pc l st hs) := sx_O_bind fun _ => sx_O_bind fun _ => sx_O_bind fun _ => sx_O_bind fun _ => sx_O_bind fun _ => sx_O_ite sx_O_some
theorem sx_O_aas : sx_O (fun l => sx_oaas K0 cst pc l st hs) := by
  refine sx_O_bind fun v => sx_O_bind fun _ => sx_O_bind fun _ => sx_O_bind fun _ => sx_O_bind fun _ => sx_O_ite ?_
  obtain ⟨v, r⟩ := v
  cases v with
  | null => exact sx_O_ite sx_O_some
  | ref y => exact sx_O_bind fun _ => sx_O_ite sx_O_some
  | _ => exact sx_O_none
theorem sx_O_cast : ∀ (l1 l : List (Nat × Value)) (S : sx_S), sx_ocast K0 a pc l1 st hs = some S → S.1.2.1 = l1 ∧ sx_ocast K0 a pc l st hs = some ((S.1.1, l, S.1.2.2), S.2) := by
  intro l1 l S h
  unfold sx_ocast at h ⊢
  obtain ⟨⟨v, r⟩, h1, h⟩ := Option.bind_eq_some_iff.mp h
  rw [h1, Option.bind_some]
  cases v with
  | null =>
    cases h
    exact ⟨rfl, rfl⟩
  | ref x =>
    dsimp only at h ⊢
    obtain ⟨o, h2, h⟩ := Option.bind_eq_some_iff.mp h
    rw [h2, Option.bind_some]
    by_cases z : o.1 = a ∧ K0 ≤ x
    · rw [if_pos z] at h ⊢
      cases h
      exact ⟨rfl, rfl⟩
    · rw [if_neg z] at h
      cases h
  | _ => cases h
theorem sx_O_gets : sx_O (fun l => sx_ogets zs a pc l st hs) := sx_O_bind fun _ => sx_O_some
theorem sx_O.use {g : List (Nat × Value) → Option sx_S} (hg : sx_O g) {l1 l : List (Nat × Value)} (hle : sx_le l1 l) {S : sx_S} (h : g l1 = some S) : ∃ l2, sx_le S.1.2.1 l2 ∧ g l = some ((S.1.1, l2, S.1.2.2), S.2) := by
  obtain ⟨h1, h2⟩ := hg l1 l S h
  exact ⟨l, h1 ▸ hle, h2⟩
theorem sx_hs_le {i : Instr} {len : Nat} {l1 l : List (Nat × Value)} {S : sx_S} (hle : sx_le l1 l) (h : sx_hs K0 ft df tf cst zs ks nL i len a b pc l1 st hs = some S) : ∃ l2, sx_le S.1.2.1 l2 ∧ sx_hs K0 ft df tf cst zs ks nL i len a b pc l st hs = some ((S.1.1, l2, S.1.2.2), S.2) := by
  unfold sx_hs at h ⊢
  split at h
  · exact sx_O_getf.use hle h
  · exact sx_O_putf.use hle h
  · exact sx_O_new.use hle h
  · exact sx_O_newa.use hle h
  · exact sx_O_newq.use hle h
  · exact sx_O_alen.use hle h
  · exact sx_O_ald.use hle h
  · split at h
    · rename_i e
      simp only [if_pos e]
      exact sx_O_ald.use hle h
    · rename_i e
      simp only [if_neg e]
      exact sx_O_ald.use hle h
  · exact sx_O_ald.use hle h
  · exact sx_O_ald.use hle h
  · exact sx_O_ald.use hle h
  · exact sx_O_ast.use hle h
  · split at h
    · rename_i e
      simp only [if_pos e]
      exact sx_O_ast.use hle h
    · rename_i e
      simp only [if_neg e]
      exact sx_O_ast.use hle h
  · exact sx_O_ast.use hle h
  · exact sx_O_lst.use hle h
  · exact sx_O_aas.use hle h
  · exact sx_O_gets.use hle h
  · split at h
    · rename_i e
      simp only [if_pos e]
      cases h
      exact ⟨l, hle, rfl⟩
    · cases h
  · cases h
    exact ⟨l, hle, rfl⟩
  · obtain ⟨g1, g2⟩ := sx_O_cast l1 l S h
    exact ⟨l, g1 ▸ hle, g2⟩
  · cases h
    exact ⟨l, hle, rfl⟩
  · obtain ⟨F, h1, h2⟩ := Option.bind_eq_some_iff.mp h
    cases h2
    obtain ⟨l2, g1, g2⟩ := sx_pure_le hle h1
    exact ⟨l2, g1, by rw [g2]; rfl⟩
theorem sx_run_le : ∀ (n d : Nat) (M : sx_M) (pc : Nat) (l1 l : List (Nat × Value)) (st : List Value) (hs : sx_H) (r : sx_Res), sx_le l1 l → sx_run K0 ft df tf cst zs ks mt n d M pc l1 st hs = some r → sx_run K0 ft df tf cst zs ks mt n d M pc l st hs = some r := by
  intro n
  induction n with
  | zero =>
    intro d M pc l1 l st hs r _ h
    cases h
  | succ n ih =>
    intro d M pc l1 l st hs r hle h
    unfold sx_run at h ⊢
    obtain ⟨I, hI, h⟩ := Option.bind_eq_some_iff.mp h
    rw [hI, Option.bind_some]
    by_cases k0 : sx_kd I.1 I.2.2.2 = 0
    · rw [if_pos k0] at h ⊢
      obtain ⟨S, hS, h⟩ := Option.bind_eq_some_iff.mp h
      obtain ⟨l2, g1, g2⟩ := sx_hs_le hle hS
      rw [g2, Option.bind_some]
      obtain ⟨q, hq, rfl⟩ := sx_plus_some h
      dsimp only
      rw [ih _ _ _ _ _ _ _ _ g1 hq]
      rfl
    rw [if_neg k0] at h ⊢
    by_cases k1 : sx_kd I.1 I.2.2.2 = 1
    · rw [if_pos k1] at h ⊢
      exact h
    rw [if_neg k1] at h ⊢
    by_cases k3 : sx_kd I.1 I.2.2.2 = 3
    · rw [if_pos k3] at h ⊢
      obtain ⟨q, hq, h⟩ := Option.bind_eq_some_iff.mp h
      rw [hq, Option.bind_some]
      by_cases hc : 1 ≤ d ∧ sx_cats q.2 ≤ 8
      · rw [if_pos hc] at h ⊢
        exact ih _ _ _ _ _ _ _ _ hle h
      · rw [if_neg hc] at h
        cases h
    rw [if_neg k3] at h ⊢
    by_cases k4 : sx_kd I.1 I.2.2.2 = 4
    · rw [if_pos k4] at h ⊢
      exact h
    rw [if_neg k4] at h ⊢
    by_cases k5 : sx_kd I.1 I.2.2.2 = 5
    · rw [if_pos k5] at h ⊢
      obtain ⟨q, hq, h⟩ := Option.bind_eq_some_iff.mp h
      rw [hq, Option.bind_some]
      by_cases hc : 1 ≤ d ∧ sx_cats q.2.1 ≤ 8
      · rw [if_pos hc] at h ⊢
        exact ih _ _ _ _ _ _ _ _ hle h
      · rw [if_neg hc] at h
        cases h
    rw [if_neg k5] at h ⊢
    cases d with
    | zero => cases h
    | succ d =>
      dsimp only at h ⊢
      obtain ⟨M', hM', h⟩ := Option.bind_eq_some_iff.mp h
      rw [hM', Option.bind_some]
      split at h
      · rename_i hc
        rw [if_pos hc]
        obtain ⟨r1, h1, h⟩ := Option.bind_eq_some_iff.mp h
        rw [h1, Option.bind_some]
        obtain ⟨q, hq, rfl⟩ := sx_plus_some h
        obtain ⟨v1, hs2, dc1, ds1⟩ := r1
        dsimp only at hq ⊢
        cases v1 with
        | inl v =>
          dsimp only at hq ⊢
          rw [ih _ _ _ _ _ _ _ _ hle hq]
          rfl
        | inr x =>
          dsimp only at hq ⊢
          split at hq
          · rename_i j hj
            obtain ⟨hp, hf, hq⟩ := Option.bind_eq_some_iff.mp hq
            split at hq
            · rename_i hc9
              simp only [hj, hf, Option.bind_some, if_pos hc9]
              rw [ih _ _ _ _ _ _ _ _ hle hq]
              rfl
            · cases hq
          · cases hq
      · cases h
variable {d dc ds : Nat} {M : sx_M} {P : Option Value ⊕ Nat → sx_H → Nat → Nat → Prop}
def sx_leL (l1 l : List (Nat × Value)) : Prop := match l1 with
  | [] => True
  | q :: r => sx_lk l q.1 = some q.2 ∧ sx_leL r l
theorem sx_leL_lk {l : List (Nat × Value)} : ∀ {l1 : List (Nat × Value)}, sx_leL l1 l → ∀ i v, sx_lk l1 i = some v → sx_lk l i = some v
  | [], _, i, v, h => by cases h
  | q :: r, hl, i, v, h => by
    unfold sx_lk at h
    by_cases e : q.1 = i
    · rw [if_pos e] at h
      cases h
      rw [← e]
      exact hl.1
    · rw [if_neg e] at h
      exact sx_leL_lk hl.2 i v h
def sx_nd (l : List Nat) : Bool := match l with
  | [] => true
  | a :: r => (r.all fun b => !(a == b)) && sx_nd r
theorem sx_nd_ok : ∀ {l : List Nat}, sx_nd l = true → l.Nodup
  | [], _ => List.nodup_nil
  | a :: r, h => by
    unfold sx_nd at h
    rw [Bool.and_eq_true] at h
    refine List.nodup_cons.mpr ⟨fun hm => ?_, sx_nd_ok h.2⟩
    have := List.all_eq_true.mp h.1 a hm
    simp at this
/-- some of the locals do, in any order -/
theorem w_wk {l1 l : List (Nat × Value)} (hn : sx_nd (l1.map Prod.fst) = true) (hl : sx_leL l1 l) (h : sx_wp K0 ft df tf cst zs ks mt d M pc l1 st hs dc ds P) : sx_wp K0 ft df tf cst zs ks mt d M pc l st hs dc ds P := by
  obtain ⟨r, ⟨n, hr⟩, hP⟩ := h
  exact ⟨r, ⟨n, sx_run_le n d M pc l1 l st hs r ⟨sx_nd_ok hn, sx_leL_lk hl⟩ hr⟩, hP⟩
end SXO2
