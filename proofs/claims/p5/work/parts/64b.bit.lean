/-! BITS (from the kit, to paste), and the bit of a VARIABLE in a word -/
def bt (x : Int32) (i : Nat) : Bool := x.toBitVec.getLsbD i
theorem b_ext {x y : Int32} (h : ∀ i, i < 32 → bt x i = bt y i) : x = y := Int32.toBitVec_inj.mp (BitVec.eq_of_getLsbD_eq (fun i hi => h i hi))
theorem b_or (x y : Int32) (i : Nat) : bt (x ||| y) i = (bt x i || bt y i) := by unfold bt; rw [Int32.toBitVec_or, BitVec.getLsbD_or]
theorem b_and (x y : Int32) (i : Nat) : bt (x &&& y) i = (bt x i && bt y i) := by unfold bt; rw [Int32.toBitVec_and, BitVec.getLsbD_and]
theorem b_big {x : Int32} {i : Nat} (h : 32 ≤ i) : bt x i = false := BitVec.getLsbD_of_ge _ _ h
theorem b_0 (i : Nat) : bt 0 i = false := BitVec.getLsbD_zero
theorem s_l : ∀ n, n < 32 → ((nI n &&& 31).toBitVec.smod 32).toNat = n := by decide +kernel
theorem s_u : ∀ n, n < 32 → (((nI n).toUInt32 &&& Int32.toUInt32 31).toBitVec % 32).toNat = n := by decide +kernel
theorem b_shl (n : Nat) (hn : n < 32) (x : Int32) {i : Nat} (hi : i < 32) : bt (x <<< (nI n &&& 31)) i = (decide (n ≤ i) && bt x (i - n)) := by
  unfold bt
  rw [Int32.toBitVec_shiftLeft]
  show (x.toBitVec <<< ((nI n &&& 31).toBitVec.smod 32).toNat).getLsbD i = _
  rw [s_l n hn, BitVec.getLsbD_shiftLeft]
  rcases Nat.lt_or_ge i n with h | h
  · simp [h, Nat.not_le.mpr h]
  · simp [hi, h, Nat.not_lt.mpr h]
theorem b_ushr (n : Nat) (hn : n < 32) (x : Int32) (i : Nat) : bt ((x.toUInt32 >>> ((nI n).toUInt32 &&& Int32.toUInt32 31)).toInt32) i = bt x (n + i) := by
  show (x.toUInt32 >>> ((nI n).toUInt32 &&& Int32.toUInt32 31)).toBitVec.getLsbD i = x.toUInt32.toBitVec.getLsbD (n + i)
  rw [UInt32.toBitVec_shiftRight]
  show (x.toUInt32.toBitVec >>> (((nI n).toUInt32 &&& Int32.toUInt32 31).toBitVec % 32).toNat).getLsbD i = _
  rw [s_u n hn, BitVec.getLsbD_ushiftRight]
theorem b_sshr (n : Nat) (hn : n < 32) (x : Int32) {i : Nat} (hi : i < 32) : bt (x >>> (nI n &&& 31)) i = if n + i < 32 then bt x (n + i) else bt x 31 := by
  unfold bt
  rw [Int32.toBitVec_shiftRight]
  show (x.toBitVec.sshiftRight ((nI n &&& 31).toBitVec.smod 32).toNat).getLsbD i = _
  rw [s_l n hn, BitVec.getLsbD_sshiftRight, BitVec.msb_eq_getLsbD_last]
  simp [hi]
theorem b_1 : ∀ i, i < 32 → bt 1 i = decide (i = 0) := by decide +kernel
theorem b_1' (i : Nat) : bt 1 i = decide (i = 0) := by
  rcases Nat.lt_or_ge i 32 with h | h
  · exact b_1 i h
  · rw [b_big h, decide_eq_false (by omega)]
theorem nI_tq {u : Int32} {k : Nat} (h : u.toInt = (k : Int)) (hk : k < 2 ^ 31) : u = nI k := Int32.toInt_inj.mp (by rw [h, nI_toInt hk])
theorem q_bit0 {u : Int32} {k : Nat} (hu : u.toInt = (k : Int)) (hk : k < 26) : (c_ushr 0 u &&& 1).toInt = 0 := by
  rw [nI_tq hu (by omega)]
  have e : c_ushr 0 (nI k) &&& 1 = 0 := by
    refine b_ext (fun i hi => ?_)
    rw [b_and]
    show (bt ((Int32.toUInt32 0 >>> ((nI k).toUInt32 &&& Int32.toUInt32 31)).toInt32) i && bt 1 i) = bt 0 i
    rw [b_ushr k (by omega), b_0, b_0, Bool.false_and]
  rw [e]
  rfl
theorem q_bitU {m u w : Int32} {k j : Nat} (hu : u.toInt = (k : Int)) (hk : k < 26) (hw : w.toInt = (j : Int)) (hj : j < 26) (hne : j ≠ k) : (c_ushr (m ||| c_shl 1 u) w &&& 1) = (c_ushr m w &&& 1) := by
  rw [nI_tq hu (by omega), nI_tq hw (by omega)]
  refine b_ext (fun i hi => ?_)
  rw [b_and, b_and]
  show (bt (((m ||| ((1 : Int32) <<< (nI k &&& 31))).toUInt32 >>> ((nI j).toUInt32 &&& Int32.toUInt32 31)).toInt32) i && bt 1 i) = (bt ((m.toUInt32 >>> ((nI j).toUInt32 &&& Int32.toUInt32 31)).toInt32) i && bt 1 i)
  rw [b_ushr j (by omega), b_ushr j (by omega), b_or, b_1']
  by_cases e : i = 0
  · subst e
    rw [Nat.add_zero, b_shl k (by omega) 1 (by omega), b_1', decide_eq_true rfl, Bool.and_true, Bool.and_true]
    by_cases q : k ≤ j
    · rw [decide_eq_false (show ¬ j - k = 0 by omega), Bool.and_false, Bool.or_false]
    · rw [decide_eq_false q, Bool.false_and, Bool.or_false]
  · rw [decide_eq_false e, Bool.and_false, Bool.and_false]
