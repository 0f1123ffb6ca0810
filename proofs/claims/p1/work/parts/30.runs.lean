/-! EVERY RUN OF P1 (by program: wip/sx/gen_p1_type.py) -/
theorem ty_and7 (x : Int32) : 0 ≤ (x &&& 7).toInt ∧ (x &&& 7).toInt ≤ 7 := by
  have h : (x &&& 7).toInt = (x.toBitVec &&& 7#32).toInt := rfl
  have h1 : (x.toBitVec &&& 7#32).toNat ≤ 7 := by
    rw [BitVec.toNat_and]
    exact Nat.and_le_right
  rw [h, BitVec.toInt_eq_toNat_cond]
  split
  · omega
  · omega
set_option maxRecDepth 20000 in
set_option maxHeartbeats 4000000 in
theorem s_sw (xs : Nat → Int32) : s_wp 20 sM_law 39 [(4, .int 0), (3, .ref 61), (2, .ref 30), (1, .ref 2), (0, .ref 0)] [.int ((xs 0) &&& 7)] (sH_121 3 xs) 60 146541 s_fin := by
  obtain ⟨h0, h7⟩ := ty_and7 (xs 0)
  by_cases e0 : (xs 0 &&& 7).toInt = 0
  · refine w_top (Int32.toInt_inj.mp (e0.trans (show (0 : Int) = (0 : Int32).toInt by decide))) ?_
    exact w_mv (pc1 := 84) (st1 := []) rfl rfl rfl (s_k_type xs)
  by_cases e1 : (xs 0 &&& 7).toInt = 1
  · refine w_top (Int32.toInt_inj.mp (e1.trans (show (1 : Int) = (1 : Int32).toInt by decide))) ?_
    exact w_mv (pc1 := 172) (st1 := []) rfl rfl rfl (s_k_add xs)
  by_cases e2 : (xs 0 &&& 7).toInt = 2
  · refine w_top (Int32.toInt_inj.mp (e2.trans (show (2 : Int) = (2 : Int32).toInt by decide))) ?_
    exact w_mv (pc1 := 216) (st1 := []) rfl rfl rfl (s_k_drop xs)
  by_cases e3 : (xs 0 &&& 7).toInt = 3
  · refine w_top (Int32.toInt_inj.mp (e3.trans (show (3 : Int) = (3 : Int32).toInt by decide))) ?_
    exact w_mv (pc1 := 252) (st1 := []) rfl rfl rfl (s_k_ask xs)
  by_cases e4 : (xs 0 &&& 7).toInt = 4
  · refine w_top (Int32.toInt_inj.mp (e4.trans (show (4 : Int) = (4 : Int32).toInt by decide))) ?_
    exact w_mv (pc1 := 296) (st1 := []) rfl rfl rfl (s_k_run xs)
  by_cases e5 : (xs 0 &&& 7).toInt = 5
  · refine w_top (Int32.toInt_inj.mp (e5.trans (show (5 : Int) = (5 : Int32).toInt by decide))) ?_
    exact w_mv (pc1 := 352) (st1 := []) rfl rfl rfl (s_k_letter xs)
  by_cases e6 : (xs 0 &&& 7).toInt = 6
  · refine w_top (Int32.toInt_inj.mp (e6.trans (show (6 : Int) = (6 : Int32).toInt by decide))) ?_
    exact w_mv (pc1 := 420) (st1 := []) rfl rfl rfl (s_k_sleeping xs)
  by_cases e7 : (xs 0 &&& 7).toInt = 7
  · refine w_top (Int32.toInt_inj.mp (e7.trans (show (7 : Int) = (7 : Int32).toInt by decide))) ?_
    exact w_mv (pc1 := 476) (st1 := []) rfl rfl rfl (s_k_count xs)
  omega
theorem s_all : s_Runs := by
  intro L xs hL
  have h : s_wp 20 sM_law 0 [(0, .ref 0)] [] (s_h0 L xs) 0 0 s_fin := by
    refine s_ctor L xs ?_
    match L, hL with
    | 0, _ => exact s_short0 xs
    | 1, _ => exact s_short1 xs
    | 2, _ => exact s_short2 xs
    | 3, _ => exact s_to39 xs (s_sw xs)
  obtain ⟨⟨v, hs1, dc, ds⟩, ⟨n, hn⟩, h1, h2, h3⟩ := h
  dsimp only at h1 h2 h3
  subst h1
  exact ⟨n, 20, hs1, dc, ds, by decide, by omega, by omega, hn⟩
