/-! SIX OF THE EIGHT CALLS ON A FRESH PAIR (by program: wip/sx/gen_p1.py) -/
def sc_94 : sx_C := .inr (.inl (0, [.ref 3, .int 0, .ref 5, .ref 6, .ref 28]))
def sH_122 (L : Nat) (xs : Nat → Int32) : sx_H := [.inl (0, (L, .inl xs)), .inl (4, (0, .inr (.inr (.inr (.inr (fun _ => none)))))), sc_94, sc_3, sc_2, sc_7, sc_30, sc_20, sc_12, sc_7, sc_17, sc_15, sc_15, sc_19, sc_38, sc_26, sc_25, sc_28, sc_25, sc_19, sc_31, sc_25, sc_33, sc_25, sc_35, sc_25, sc_37, sc_25, sc_42, sc_41, sc_92, sc_45, sc_47, sc_49, sc_51, sc_51, sc_54, sc_54, sc_58, sc_58, sc_61, sc_63, sc_65, sc_65, sc_65, sc_65, sc_65, sc_65, sc_65, sc_65, sc_74, sc_76, sc_78, sc_80, sc_82, sc_84, sc_84, sc_51, sc_51, sc_89, sc_91, sc_93]
def sc_95 : sx_C := .inr (.inr 0)
def sH_123 (L : Nat) (xs : Nat → Int32) : sx_H := [.inl (0, (L, .inl xs)), .inl (4, (0, .inr (.inr (.inr (.inr (fun _ => none)))))), sc_94, sc_3, sc_2, sc_7, sc_30, sc_20, sc_12, sc_7, sc_17, sc_15, sc_15, sc_19, sc_38, sc_26, sc_25, sc_28, sc_25, sc_19, sc_31, sc_25, sc_33, sc_25, sc_35, sc_25, sc_37, sc_25, sc_42, sc_41, sc_92, sc_45, sc_47, sc_49, sc_51, sc_51, sc_54, sc_54, sc_58, sc_58, sc_61, sc_63, sc_65, sc_65, sc_65, sc_65, sc_65, sc_65, sc_65, sc_65, sc_74, sc_76, sc_78, sc_80, sc_82, sc_84, sc_84, sc_51, sc_51, sc_89, sc_91, sc_93, sc_95]
def sc_96 : sx_C := .inr (.inl (12, [.ref 31, .ref 32, .ref 33, .ref 34, .ref 35, .ref 36, .ref 37, .int 0, .int 0, .int 0, .int 0, .int 0, .int 0, .int 0, .ref 38, .ref 39, .ref 40, .ref 41, .ref 42, .ref 43, .ref 44, .ref 45, .ref 46, .ref 47, .ref 48, .ref 49, .ref 50, .ref 51, .ref 52, .ref 53, .ref 54, .ref 55, .ref 56, .ref 57, .ref 58, .ref 59, .ref 60, .int 0, .int 0, .int 0, .int 0, .int 0, .int 0, .int 0, .int 0, .int 0, .int 0]))
def sH_124 (L : Nat) (xs : Nat → Int32) : sx_H := [.inl (0, (L, .inl xs)), .inl (4, (0, .inr (.inr (.inr (.inr (fun _ => none)))))), sc_94, sc_3, sc_2, sc_7, sc_30, sc_20, sc_12, sc_7, sc_17, sc_15, sc_15, sc_19, sc_38, sc_26, sc_25, sc_28, sc_25, sc_19, sc_31, sc_25, sc_33, sc_25, sc_35, sc_25, sc_37, sc_25, sc_42, sc_41, sc_96, sc_45, sc_47, sc_49, sc_51, sc_51, sc_54, sc_54, sc_58, sc_58, sc_61, sc_63, sc_65, sc_65, sc_65, sc_65, sc_65, sc_65, sc_65, sc_65, sc_74, sc_76, sc_78, sc_80, sc_82, sc_84, sc_84, sc_51, sc_51, sc_89, sc_91, sc_93, sc_95]
def sc_97 : sx_C := .inl (0, (12, .inl (upd (fun _ => 0) 0 0)))
def sH_125 (L : Nat) (xs : Nat → Int32) : sx_H := [.inl (0, (L, .inl xs)), .inl (4, (0, .inr (.inr (.inr (.inr (fun _ => none)))))), sc_94, sc_3, sc_2, sc_7, sc_30, sc_20, sc_12, sc_7, sc_17, sc_15, sc_15, sc_19, sc_38, sc_26, sc_25, sc_28, sc_25, sc_19, sc_31, sc_25, sc_33, sc_25, sc_35, sc_25, sc_37, sc_25, sc_42, sc_41, sc_96, sc_45, sc_47, sc_97, sc_51, sc_51, sc_54, sc_54, sc_58, sc_58, sc_61, sc_63, sc_65, sc_65, sc_65, sc_65, sc_65, sc_65, sc_65, sc_65, sc_74, sc_76, sc_78, sc_80, sc_82, sc_84, sc_84, sc_51, sc_51, sc_89, sc_91, sc_93, sc_95]
def sc_98 : sx_C := .inr (.inl (12, [.ref 31, .ref 32, .ref 33, .ref 34, .ref 35, .ref 36, .ref 37, .int 0, .int 0, .int 0, .int 0, .int 1, .int 0, .int 0, .ref 38, .ref 39, .ref 40, .ref 41, .ref 42, .ref 43, .ref 44, .ref 45, .ref 46, .ref 47, .ref 48, .ref 49, .ref 50, .ref 51, .ref 52, .ref 53, .ref 54, .ref 55, .ref 56, .ref 57, .ref 58, .ref 59, .ref 60, .int 0, .int 0, .int 0, .int 0, .int 0, .int 0, .int 0, .int 0, .int 0, .int 0]))
def sH_126 (L : Nat) (xs : Nat → Int32) : sx_H := [.inl (0, (L, .inl xs)), .inl (4, (0, .inr (.inr (.inr (.inr (fun _ => none)))))), sc_94, sc_3, sc_2, sc_7, sc_30, sc_20, sc_12, sc_7, sc_17, sc_15, sc_15, sc_19, sc_38, sc_26, sc_25, sc_28, sc_25, sc_19, sc_31, sc_25, sc_33, sc_25, sc_35, sc_25, sc_37, sc_25, sc_42, sc_41, sc_98, sc_45, sc_47, sc_97, sc_51, sc_51, sc_54, sc_54, sc_58, sc_58, sc_61, sc_63, sc_65, sc_65, sc_65, sc_65, sc_65, sc_65, sc_65, sc_65, sc_74, sc_76, sc_78, sc_80, sc_82, sc_84, sc_84, sc_51, sc_51, sc_89, sc_91, sc_93, sc_95]
def sH_127 (L : Nat) (xs : Nat → Int32) : sx_H := [.inl (0, (L, .inl xs)), .inl (4, (0, .inr (.inr (.inr (.inr (fun _ => none)))))), sc_43, sc_3, sc_2, sc_7, sc_30, sc_20, sc_12, sc_7, sc_17, sc_15, sc_15, sc_19, sc_38, sc_26, sc_25, sc_28, sc_25, sc_19, sc_31, sc_25, sc_33, sc_25, sc_35, sc_25, sc_37, sc_25, sc_42, sc_41, sc_92, sc_45, sc_47, sc_49, sc_51, sc_51, sc_54, sc_54, sc_58, sc_58, sc_61, sc_63, sc_65, sc_65, sc_65, sc_65, sc_65, sc_65, sc_65, sc_65, sc_74, sc_76, sc_78, sc_80, sc_82, sc_84, sc_84, sc_51, sc_51, sc_89, sc_91, sc_93, sc_95]
def sc_99 : sx_C := .inr (.inl (12, [.ref 31, .ref 32, .ref 33, .ref 34, .ref 35, .ref 36, .ref 37, .int 0, .int 0, .int (-1), .int 0, .int 1, .int 0, .int 0, .ref 38, .ref 39, .ref 40, .ref 41, .ref 42, .ref 43, .ref 44, .ref 45, .ref 46, .ref 47, .ref 48, .ref 49, .ref 50, .ref 51, .ref 52, .ref 53, .ref 54, .ref 55, .ref 56, .ref 57, .ref 58, .ref 59, .ref 60, .int 0, .int 0, .int 0, .int 0, .int 0, .int 0, .int 0, .int 0, .int 0, .int 0]))
def sH_128 (L : Nat) (xs : Nat → Int32) : sx_H := [.inl (0, (L, .inl xs)), .inl (4, (0, .inr (.inr (.inr (.inr (fun _ => none)))))), sc_43, sc_3, sc_2, sc_7, sc_30, sc_20, sc_12, sc_7, sc_17, sc_15, sc_15, sc_19, sc_38, sc_26, sc_25, sc_28, sc_25, sc_19, sc_31, sc_25, sc_33, sc_25, sc_35, sc_25, sc_37, sc_25, sc_42, sc_41, sc_99, sc_45, sc_47, sc_49, sc_51, sc_51, sc_54, sc_54, sc_58, sc_58, sc_61, sc_63, sc_65, sc_65, sc_65, sc_65, sc_65, sc_65, sc_65, sc_65, sc_74, sc_76, sc_78, sc_80, sc_82, sc_84, sc_84, sc_51, sc_51, sc_89, sc_91, sc_93, sc_95]
def sH_129 (L : Nat) (xs : Nat → Int32) : sx_H := [.inl (0, (L, .inl xs)), .inl (4, (0, .inr (.inr (.inr (.inr (fun _ => none)))))), sc_43, sc_3, sc_2, sc_7, sc_30, sc_20, sc_12, sc_7, sc_17, sc_15, sc_15, sc_19, sc_38, sc_26, sc_25, sc_28, sc_25, sc_19, sc_31, sc_25, sc_33, sc_25, sc_35, sc_25, sc_37, sc_25, sc_42, sc_41, sc_92, sc_45, sc_47, sc_49, sc_51, sc_51, sc_54, sc_54, sc_58, sc_58, sc_61, sc_63, sc_65, sc_65, sc_65, sc_65, sc_65, sc_65, sc_65, sc_65, sc_74, sc_76, sc_78, sc_80, sc_82, sc_84, sc_84, sc_51, sc_51, sc_89, sc_91, sc_93, sc_6]
def sH_130 (L : Nat) (xs : Nat → Int32) : sx_H := [.inl (0, (L, .inl xs)), .inl (4, (0, .inr (.inr (.inr (.inr (fun _ => none)))))), sc_43, sc_3, sc_2, sc_7, sc_30, sc_20, sc_12, sc_7, sc_17, sc_15, sc_15, sc_19, sc_38, sc_26, sc_25, sc_28, sc_25, sc_19, sc_31, sc_25, sc_33, sc_25, sc_35, sc_25, sc_37, sc_25, sc_42, sc_41, sc_92, sc_45, sc_47, sc_49, sc_51, sc_51, sc_54, sc_54, sc_58, sc_58, sc_61, sc_63, sc_65, sc_65, sc_65, sc_65, sc_65, sc_65, sc_65, sc_65, sc_74, sc_76, sc_78, sc_80, sc_82, sc_84, sc_84, sc_51, sc_51, sc_89, sc_91, sc_93, sc_7]
def sH_131 (L : Nat) (xs : Nat → Int32) : sx_H := [.inl (0, (L, .inl xs)), .inl (4, (0, .inr (.inr (.inr (.inr (fun _ => none)))))), sc_94, sc_3, sc_2, sc_7, sc_30, sc_20, sc_12, sc_7, sc_17, sc_15, sc_15, sc_19, sc_38, sc_26, sc_25, sc_28, sc_25, sc_19, sc_31, sc_25, sc_33, sc_25, sc_35, sc_25, sc_37, sc_25, sc_42, sc_41, sc_92, sc_45, sc_47, sc_49, sc_51, sc_51, sc_54, sc_54, sc_58, sc_58, sc_61, sc_63, sc_65, sc_65, sc_65, sc_65, sc_65, sc_65, sc_65, sc_65, sc_74, sc_76, sc_78, sc_80, sc_82, sc_84, sc_84, sc_51, sc_51, sc_89, sc_91, sc_93, sc_7]
def sH_132 (L : Nat) (xs : Nat → Int32) : sx_H := [.inl (0, (L, .inl xs)), .inl (4, (0, .inr (.inr (.inr (.inr (fun _ => none)))))), sc_94, sc_3, sc_2, sc_7, sc_30, sc_20, sc_12, sc_7, sc_17, sc_15, sc_15, sc_19, sc_38, sc_26, sc_25, sc_28, sc_25, sc_19, sc_31, sc_25, sc_33, sc_25, sc_35, sc_25, sc_37, sc_25, sc_42, sc_41, sc_92, sc_45, sc_47, sc_49, sc_51, sc_51, sc_54, sc_54, sc_58, sc_58, sc_61, sc_63, sc_65, sc_65, sc_65, sc_65, sc_65, sc_65, sc_65, sc_65, sc_74, sc_76, sc_78, sc_80, sc_82, sc_84, sc_84, sc_51, sc_51, sc_89, sc_91, sc_93, sc_7, sc_95]
def sH_133 (L : Nat) (xs : Nat → Int32) : sx_H := [.inl (0, (L, .inl xs)), .inl (4, (0, .inr (.inr (.inr (.inr (fun _ => none)))))), sc_94, sc_3, sc_2, sc_7, sc_30, sc_20, sc_12, sc_7, sc_17, sc_15, sc_15, sc_19, sc_38, sc_26, sc_25, sc_28, sc_25, sc_19, sc_31, sc_25, sc_33, sc_25, sc_35, sc_25, sc_37, sc_25, sc_42, sc_41, sc_96, sc_45, sc_47, sc_49, sc_51, sc_51, sc_54, sc_54, sc_58, sc_58, sc_61, sc_63, sc_65, sc_65, sc_65, sc_65, sc_65, sc_65, sc_65, sc_65, sc_74, sc_76, sc_78, sc_80, sc_82, sc_84, sc_84, sc_51, sc_51, sc_89, sc_91, sc_93, sc_7, sc_95]
def sH_134 (L : Nat) (xs : Nat → Int32) : sx_H := [.inl (0, (L, .inl xs)), .inl (4, (0, .inr (.inr (.inr (.inr (fun _ => none)))))), sc_94, sc_3, sc_2, sc_7, sc_30, sc_20, sc_12, sc_7, sc_17, sc_15, sc_15, sc_19, sc_38, sc_26, sc_25, sc_28, sc_25, sc_19, sc_31, sc_25, sc_33, sc_25, sc_35, sc_25, sc_37, sc_25, sc_42, sc_41, sc_98, sc_45, sc_47, sc_49, sc_51, sc_51, sc_54, sc_54, sc_58, sc_58, sc_61, sc_63, sc_65, sc_65, sc_65, sc_65, sc_65, sc_65, sc_65, sc_65, sc_74, sc_76, sc_78, sc_80, sc_82, sc_84, sc_84, sc_51, sc_51, sc_89, sc_91, sc_93, sc_7, sc_95]
def sc_100 : sx_C := .inr (.inr 1)
def sH_135 (L : Nat) (xs : Nat → Int32) : sx_H := [.inl (0, (L, .inl xs)), .inl (4, (0, .inr (.inr (.inr (.inr (fun _ => none)))))), sc_43, sc_3, sc_2, sc_7, sc_30, sc_20, sc_12, sc_7, sc_17, sc_15, sc_15, sc_19, sc_38, sc_26, sc_25, sc_28, sc_25, sc_19, sc_31, sc_25, sc_33, sc_25, sc_35, sc_25, sc_37, sc_25, sc_42, sc_41, sc_92, sc_45, sc_47, sc_49, sc_51, sc_51, sc_54, sc_54, sc_58, sc_58, sc_61, sc_63, sc_65, sc_65, sc_65, sc_65, sc_65, sc_65, sc_65, sc_65, sc_74, sc_76, sc_78, sc_80, sc_82, sc_84, sc_84, sc_51, sc_51, sc_89, sc_91, sc_93, sc_100]
def sc_101 : sx_C := .inr (.inl (12, [.ref 31, .ref 32, .ref 33, .ref 34, .ref 35, .ref 36, .ref 37, .int 0, .int 0, .int (-1), .int 0, .int 2, .int 0, .int 0, .ref 38, .ref 39, .ref 40, .ref 41, .ref 42, .ref 43, .ref 44, .ref 45, .ref 46, .ref 47, .ref 48, .ref 49, .ref 50, .ref 51, .ref 52, .ref 53, .ref 54, .ref 55, .ref 56, .ref 57, .ref 58, .ref 59, .ref 60, .int 0, .int 0, .int 0, .int 0, .int 0, .int 0, .int 0, .int 0, .int 0, .int 0]))
def sH_136 (L : Nat) (xs : Nat → Int32) : sx_H := [.inl (0, (L, .inl xs)), .inl (4, (0, .inr (.inr (.inr (.inr (fun _ => none)))))), sc_43, sc_3, sc_2, sc_7, sc_30, sc_20, sc_12, sc_7, sc_17, sc_15, sc_15, sc_19, sc_38, sc_26, sc_25, sc_28, sc_25, sc_19, sc_31, sc_25, sc_33, sc_25, sc_35, sc_25, sc_37, sc_25, sc_42, sc_41, sc_101, sc_45, sc_47, sc_49, sc_51, sc_51, sc_54, sc_54, sc_58, sc_58, sc_61, sc_63, sc_65, sc_65, sc_65, sc_65, sc_65, sc_65, sc_65, sc_65, sc_74, sc_76, sc_78, sc_80, sc_82, sc_84, sc_84, sc_51, sc_51, sc_89, sc_91, sc_93, sc_100]
def sc_102 : sx_C := .inr (.inr 3)
def sH_137 (L : Nat) (xs : Nat → Int32) : sx_H := [.inl (0, (L, .inl xs)), .inl (4, (0, .inr (.inr (.inr (.inr (fun _ => none)))))), sc_43, sc_3, sc_2, sc_7, sc_30, sc_20, sc_12, sc_7, sc_17, sc_15, sc_15, sc_19, sc_38, sc_26, sc_25, sc_28, sc_25, sc_19, sc_31, sc_25, sc_33, sc_25, sc_35, sc_25, sc_37, sc_25, sc_42, sc_41, sc_92, sc_45, sc_47, sc_49, sc_51, sc_51, sc_54, sc_54, sc_58, sc_58, sc_61, sc_63, sc_65, sc_65, sc_65, sc_65, sc_65, sc_65, sc_65, sc_65, sc_74, sc_76, sc_78, sc_80, sc_82, sc_84, sc_84, sc_51, sc_51, sc_89, sc_91, sc_93, sc_102]
def sH_138 (L : Nat) (xs : Nat → Int32) : sx_H := [.inl (0, (L, .inl xs)), .inl (4, (0, .inr (.inr (.inr (.inr (fun _ => none)))))), sc_43, sc_3, sc_2, sc_7, sc_30, sc_20, sc_12, sc_7, sc_17, sc_15, sc_15, sc_19, sc_38, sc_26, sc_25, sc_28, sc_25, sc_19, sc_31, sc_25, sc_33, sc_25, sc_35, sc_25, sc_37, sc_25, sc_42, sc_41, sc_101, sc_45, sc_47, sc_49, sc_51, sc_51, sc_54, sc_54, sc_58, sc_58, sc_61, sc_63, sc_65, sc_65, sc_65, sc_65, sc_65, sc_65, sc_65, sc_65, sc_74, sc_76, sc_78, sc_80, sc_82, sc_84, sc_84, sc_51, sc_51, sc_89, sc_91, sc_93, sc_102]
def sc_103 : sx_C := .inl (3, (1, .inr (.inl (vp_updL (fun _ => 0) 0 (-1)))))
def sH_139 (L : Nat) (xs : Nat → Int32) : sx_H := [.inl (0, (L, .inl xs)), .inl (4, (0, .inr (.inr (.inr (.inr (fun _ => none)))))), sc_43, sc_3, sc_2, sc_7, sc_30, sc_20, sc_12, sc_7, sc_17, sc_15, sc_15, sc_19, sc_38, sc_26, sc_25, sc_28, sc_25, sc_19, sc_31, sc_25, sc_33, sc_25, sc_35, sc_25, sc_37, sc_25, sc_42, sc_41, sc_92, sc_45, sc_47, sc_49, sc_51, sc_51, sc_54, sc_54, sc_58, sc_58, sc_61, sc_63, sc_65, sc_65, sc_65, sc_65, sc_65, sc_65, sc_65, sc_65, sc_74, sc_76, sc_78, sc_80, sc_82, sc_84, sc_84, sc_51, sc_51, sc_89, sc_91, sc_103]
set_option maxRecDepth 20000 in
set_option maxHeartbeats 4000000 in
theorem s_k_add (xs : Nat → Int32)  : s_wp 20 sM_law 172 [(4, .int 0), (3, .ref 61), (2, .ref 30), (1, .ref 2), (0, .ref 0)] [] (sH_121 3 xs) 60 146541 s_fin := by
  refine w_mv (pc1 := 173) (st1 := [.ref 2]) rfl rfl rfl ?_
  refine w_mv (pc1 := 174) (st1 := [.ref 61, .ref 2]) rfl rfl rfl ?_
  refine w_call (M' := sM_22) (vals := [.ref 2, .ref 61]) (rest := []) (lv' := [(0, .ref 2), (1, .ref 61)]) rfl rfl rfl rfl rfl rfl rfl rfl rfl rfl ?_
  refine w_mv (pc1 := 1) (st1 := [.ref 61]) rfl rfl rfl ?_
  refine w_mv (pc1 := 2) (st1 := [.int 0, .ref 61]) rfl rfl rfl ?_
  refine w_mv (pc1 := 3) (st1 := [.ref 2, .int 0, .ref 61]) rfl rfl rfl ?_
  refine w_call (M' := sM_23) (vals := [.ref 2]) (rest := [.int 0, .ref 61]) (lv' := [(0, .ref 2)]) rfl rfl rfl rfl rfl rfl rfl rfl rfl rfl ?_
  refine w_mv (pc1 := 1) (st1 := [.ref 2]) rfl rfl rfl ?_
  refine w_mv (pc1 := 4) (st1 := [.ref 5]) rfl rfl rfl ?_
  refine w_call (M' := sM_165) (vals := [.ref 5]) (rest := []) (lv' := [(0, .ref 5)]) rfl rfl rfl rfl rfl rfl rfl rfl rfl rfl ?_
  refine w_mv (pc1 := 1) (st1 := [.ref 5]) rfl rfl rfl ?_
  refine w_mv (pc1 := 4) (st1 := [.int 0]) rfl rfl rfl ?_
  refine w_iret (pc1 := 7) rfl rfl rfl rfl ?_
  refine w_mv (pc1 := 9) (st1 := [.int 12, .int 0]) rfl rfl rfl ?_
  refine w_mv (pc1 := 27) (st1 := []) rfl rfl rfl ?_
  refine w_mv (pc1 := 28) (st1 := [.ref 2]) rfl rfl rfl ?_
  refine w_mv (pc1 := 31) (st1 := [.ref 3]) rfl rfl rfl ?_
  refine w_call (M' := sM_25) (vals := [.ref 3]) (rest := []) (lv' := [(0, .ref 3)]) rfl rfl rfl rfl rfl rfl rfl rfl rfl rfl ?_
  refine w_mv (pc1 := 1) (st1 := [.ref 3]) rfl rfl rfl ?_
  refine w_mv (pc1 := 2) (st1 := [.int 0, .ref 3]) rfl rfl rfl ?_
  refine w_st (pc1 := 5) (st1 := []) (hs1 := sH_121 3 xs) (dc1 := 0) (ds1 := 0) (dc2 := 60) (ds2 := 146541) rfl rfl rfl rfl rfl ?_
  refine w_mv (pc1 := 6) (st1 := [.ref 3]) rfl rfl rfl ?_
  refine w_call (M' := sM_26) (vals := [.ref 3]) (rest := []) (lv' := [(0, .ref 3)]) rfl rfl rfl rfl rfl rfl rfl rfl rfl rfl ?_
  refine w_mv (pc1 := 1) (st1 := [.ref 3]) rfl rfl rfl ?_
  refine w_mv (pc1 := 4) (st1 := [.int 0]) rfl rfl rfl ?_
  refine w_mv (pc1 := 5) (st1 := [.ref 3, .int 0]) rfl rfl rfl ?_
  refine w_mv (pc1 := 8) (st1 := [.int 0, .int 0]) rfl rfl rfl ?_
  refine w_mv (pc1 := 23) (st1 := []) rfl rfl rfl ?_
  refine w_mv (pc1 := 24) (st1 := [.int 0]) rfl rfl rfl ?_
  refine w_iret (pc1 := 9) rfl rfl rfl rfl ?_
  refine w_call (M' := sM_27) (vals := [.int 0]) (rest := []) (lv' := [(0, .int 0)]) rfl rfl rfl rfl rfl rfl rfl rfl rfl rfl ?_
  refine w_mv (pc1 := 1) (st1 := [.int 0]) rfl rfl rfl ?_
  refine w_mv (pc1 := 3) (st1 := [.int 97, .int 0]) rfl rfl rfl ?_
  refine w_mv (pc1 := 16) (st1 := []) rfl rfl rfl ?_
  refine w_mv (pc1 := 17) (st1 := [.int 0]) rfl rfl rfl ?_
  refine w_iret (pc1 := 12) rfl rfl rfl rfl ?_
  refine w_mv (pc1 := 23) (st1 := []) rfl rfl rfl ?_
  refine w_mv (pc1 := 24) (st1 := [.null]) rfl rfl rfl ?_
  refine w_mv (pc1 := 25) (lv1 := [(1, .null), (0, .ref 3)]) (st1 := []) rfl rfl rfl ?_
  refine w_mv (pc1 := 26) (st1 := [.null]) rfl rfl rfl ?_
  refine w_mv (pc1 := 29) (st1 := []) rfl rfl rfl ?_
  refine w_mv (pc1 := 30) (st1 := [.null]) rfl rfl rfl ?_
  refine w_nret (pc1 := 34) rfl rfl rfl rfl ?_
  refine w_mv (pc1 := 35) (lv1 := [(1, .null), (0, .ref 2)]) (st1 := []) rfl rfl rfl ?_
  refine w_mv (pc1 := 36) (st1 := [.ref 2]) rfl rfl rfl ?_
  refine w_mv (pc1 := 39) (st1 := [.ref 3]) rfl rfl rfl ?_
  refine w_call (M' := sM_24) (vals := [.ref 3]) (rest := []) (lv' := [(0, .ref 3)]) rfl rfl rfl rfl rfl rfl rfl rfl rfl rfl ?_
  refine w_mv (pc1 := 1) (st1 := [.ref 3]) rfl rfl rfl ?_
  refine w_mv (pc1 := 2) (st1 := [.int 0, .ref 3]) rfl rfl rfl ?_
  refine w_st (pc1 := 5) (st1 := []) (hs1 := sH_121 3 xs) (dc1 := 0) (ds1 := 0) (dc2 := 60) (ds2 := 146541) rfl rfl rfl rfl rfl ?_
  refine w_vret (pc1 := 42) rfl rfl rfl ?_
  refine w_mv (pc1 := 43) (st1 := [.null]) rfl rfl rfl ?_
  refine w_mv (pc1 := 46) (st1 := []) rfl rfl rfl ?_
  refine w_mv (pc1 := 47) (st1 := [.ref 2]) rfl rfl rfl ?_
  refine w_mv (pc1 := 48) (st1 := [.ref 2, .ref 2]) rfl rfl rfl ?_
  refine w_mv (pc1 := 51) (st1 := [.ref 3, .ref 2]) rfl rfl rfl ?_
  refine w_call (M' := sM_42) (vals := [.ref 3]) (rest := [.ref 2]) (lv' := [(0, .ref 3)]) rfl rfl rfl rfl rfl rfl rfl rfl rfl rfl ?_
  refine w_mv (pc1 := 1) (st1 := [.ref 3]) rfl rfl rfl ?_
  refine w_mv (pc1 := 4) (st1 := [.int 0]) rfl rfl rfl ?_
  refine w_iret (pc1 := 54) rfl rfl rfl rfl ?_
  refine w_st (pc1 := 57) (st1 := []) (hs1 := sH_122 3 xs) (dc1 := 0) (ds1 := 0) (dc2 := 60) (ds2 := 146541) rfl rfl rfl rfl rfl ?_
  refine w_thr (x := 62) (h9 := 11) (hs1 := sH_123 3 xs) (dc2 := 61) (ds2 := 146547) rfl rfl rfl rfl rfl rfl rfl rfl rfl rfl rfl ?_
  refine w_mv (pc1 := 12) (lv1 := [(2, .ref 62), (0, .ref 2), (1, .ref 61)]) (st1 := []) rfl rfl rfl ?_
  refine w_mv (pc1 := 13) (st1 := [.int 1]) rfl rfl rfl ?_
  refine w_iret (pc1 := 177) rfl rfl rfl rfl ?_
  refine w_mv (pc1 := 179) (lv1 := [(5, .int 1), (4, .int 0), (3, .ref 61), (2, .ref 30), (1, .ref 2), (0, .ref 0)]) (st1 := []) rfl rfl rfl ?_
  refine w_mv (pc1 := 180) (st1 := [.ref 30]) rfl rfl rfl ?_
  refine w_call (M' := sM_114) (vals := [.ref 30]) (rest := []) (lv' := [(0, .ref 30)]) rfl rfl rfl rfl rfl rfl rfl rfl rfl rfl ?_
  refine w_mv (pc1 := 1) (st1 := [.ref 30]) rfl rfl rfl ?_
  refine w_mv (pc1 := 4) (st1 := [.int 0]) rfl rfl rfl ?_
  refine w_mv (pc1 := 6) (st1 := [.int 12, .int 0]) rfl rfl rfl ?_
  refine w_mv (pc1 := 20) (st1 := []) rfl rfl rfl ?_
  refine w_mv (pc1 := 21) (st1 := [.ref 30]) rfl rfl rfl ?_
  refine w_mv (pc1 := 22) (st1 := [.int 0, .ref 30]) rfl rfl rfl ?_
  refine w_st (pc1 := 25) (st1 := []) (hs1 := sH_123 3 xs) (dc1 := 0) (ds1 := 0) (dc2 := 61) (ds2 := 146547) rfl rfl rfl rfl rfl ?_
  refine w_mv (pc1 := 26) (st1 := [.ref 30]) rfl rfl rfl ?_
  refine w_call (M' := sM_115) (vals := [.ref 30]) (rest := []) (lv' := [(0, .ref 30)]) rfl rfl rfl rfl rfl rfl rfl rfl rfl rfl ?_
  refine w_mv (pc1 := 1) (st1 := [.ref 30]) rfl rfl rfl ?_
  refine w_mv (pc1 := 2) (st1 := [.int 1, .ref 30]) rfl rfl rfl ?_
  refine w_call (M' := sM_116) (vals := [.ref 30, .int 1]) (rest := []) (lv' := [(0, .ref 30), (1, .int 1)]) rfl rfl rfl rfl rfl rfl rfl rfl rfl rfl ?_
  refine w_mv (pc1 := 1) (st1 := [.int 1]) rfl rfl rfl ?_
  refine w_mv (pc1 := 2) (lv1 := [(2, .int 1), (0, .ref 30), (1, .int 1)]) (st1 := []) rfl rfl rfl ?_
  refine w_mv (pc1 := 3) (st1 := [.int 1]) rfl rfl rfl ?_
  refine w_mv (pc1 := 4) (lv1 := [(3, .int 1), (2, .int 1), (0, .ref 30), (1, .int 1)]) (st1 := []) rfl rfl rfl ?_
  refine w_mv (pc1 := 5) (st1 := [.int 1]) rfl rfl rfl ?_
  refine w_mv (pc1 := 8) (st1 := []) rfl rfl rfl ?_
  refine w_mv (pc1 := 9) (st1 := [.int 1]) rfl rfl rfl ?_
  refine w_mv (pc1 := 12) (st1 := []) rfl rfl rfl ?_
  refine w_mv (pc1 := 13) (st1 := [.ref 30]) rfl rfl rfl ?_
  refine w_call (M' := sM_117) (vals := [.ref 30]) (rest := []) (lv' := [(0, .ref 30)]) rfl rfl rfl rfl rfl rfl rfl rfl rfl rfl ?_
  refine w_mv (pc1 := 1) (st1 := [.ref 30]) rfl rfl rfl ?_
  refine w_mv (pc1 := 4) (st1 := [.int 0]) rfl rfl rfl ?_
  refine w_mv (pc1 := 5) (st1 := [.ref 30, .int 0]) rfl rfl rfl ?_
  refine w_mv (pc1 := 8) (st1 := [.int 0, .int 0]) rfl rfl rfl ?_
  refine w_mv (pc1 := 23) (st1 := []) rfl rfl rfl ?_
  refine w_mv (pc1 := 24) (st1 := [.int 0]) rfl rfl rfl ?_
  refine w_iret (pc1 := 16) rfl rfl rfl rfl ?_
  refine w_mv (pc1 := 18) (lv1 := [(4, .int 0), (3, .int 1), (2, .int 1), (0, .ref 30), (1, .int 1)]) (st1 := []) rfl rfl rfl ?_
  refine w_mv (pc1 := 20) (st1 := [.int 0]) rfl rfl rfl ?_
  refine w_mv (pc1 := 22) (st1 := [.int 97, .int 0]) rfl rfl rfl ?_
  refine w_mv (pc1 := 24) (st1 := [.int 122, .int 97, .int 0]) rfl rfl rfl ?_
  refine w_call (M' := sM_111) (vals := [.int 0, .int 97, .int 122]) (rest := []) (lv' := [(0, .int 0), (1, .int 97), (2, .int 122)]) rfl rfl rfl rfl rfl rfl rfl rfl rfl rfl ?_
  refine w_mv (pc1 := 1) (st1 := [.int 0]) rfl rfl rfl ?_
  refine w_mv (pc1 := 2) (st1 := [.int 97, .int 0]) rfl rfl rfl ?_
  refine w_mv (pc1 := 14) (st1 := []) rfl rfl rfl ?_
  refine w_mv (pc1 := 15) (st1 := [.int 0]) rfl rfl rfl ?_
  refine w_iret (pc1 := 27) rfl rfl rfl rfl ?_
  refine w_mv (pc1 := 29) (lv1 := [(5, .int 0), (4, .int 0), (3, .int 1), (2, .int 1), (0, .ref 30), (1, .int 1)]) (st1 := []) rfl rfl rfl ?_
  refine w_mv (pc1 := 31) (st1 := [.int 0]) rfl rfl rfl ?_
  refine w_mv (pc1 := 34) (st1 := []) rfl rfl rfl ?_
  refine w_mv (pc1 := 35) (st1 := [.int 1]) rfl rfl rfl ?_
  refine w_mv (pc1 := 38) (st1 := []) rfl rfl rfl ?_
  refine w_mv (pc1 := 39) (st1 := [.int 1]) rfl rfl rfl ?_
  refine w_mv (pc1 := 40) (st1 := [.int 1, .int 1]) rfl rfl rfl ?_
  refine w_mv (pc1 := 67) (st1 := []) rfl rfl rfl ?_
  refine w_mv (pc1 := 68) (st1 := [.int 0]) rfl rfl rfl ?_
  refine w_iret (pc1 := 5) rfl rfl rfl rfl ?_
  refine w_mv (pc1 := 8) (st1 := []) rfl rfl rfl ?_
  refine w_mv (pc1 := 9) (st1 := [.int 0]) rfl rfl rfl ?_
  refine w_iret (pc1 := 29) rfl rfl rfl rfl ?_
  refine w_mv (pc1 := 30) (lv1 := [(1, .int 0), (0, .ref 30)]) (st1 := []) rfl rfl rfl ?_
  refine w_mv (pc1 := 31) (st1 := [.int 0]) rfl rfl rfl ?_
  refine w_mv (pc1 := 34) (st1 := []) rfl rfl rfl ?_
  refine w_mv (pc1 := 35) (st1 := [.ref 30]) rfl rfl rfl ?_
  refine w_mv (pc1 := 36) (st1 := [.ref 30, .ref 30]) rfl rfl rfl ?_
  refine w_mv (pc1 := 39) (st1 := [.int 0, .ref 30]) rfl rfl rfl ?_
  refine w_st (pc1 := 42) (st1 := []) (hs1 := sH_124 3 xs) (dc1 := 0) (ds1 := 0) (dc2 := 61) (ds2 := 146547) rfl rfl rfl rfl rfl ?_
  refine w_mv (pc1 := 43) (st1 := [.int 0]) rfl rfl rfl ?_
  refine w_mv (pc1 := 44) (lv1 := [(2, .int 0), (1, .int 0), (0, .ref 30)]) (st1 := []) rfl rfl rfl ?_
  refine w_mv (pc1 := 45) (st1 := [.int 0]) rfl rfl rfl ?_
  refine w_mv (pc1 := 46) (st1 := [.ref 30, .int 0]) rfl rfl rfl ?_
  refine w_mv (pc1 := 49) (st1 := [.int 0, .int 0]) rfl rfl rfl ?_
  refine w_mv (pc1 := 78) (st1 := []) rfl rfl rfl ?_
  refine w_mv (pc1 := 79) (st1 := [.ref 30]) rfl rfl rfl ?_
  refine w_mv (pc1 := 82) (st1 := [.ref 33]) rfl rfl rfl ?_
  refine w_mv (pc1 := 83) (st1 := [.ref 30, .ref 33]) rfl rfl rfl ?_
  refine w_mv (pc1 := 86) (st1 := [.int 0, .ref 33]) rfl rfl rfl ?_
  refine w_mv (pc1 := 87) (st1 := [.ref 30, .int 0, .ref 33]) rfl rfl rfl ?_
  refine w_mv (pc1 := 90) (st1 := [.int 0, .int 0, .ref 33]) rfl rfl rfl ?_
  refine w_st (pc1 := 91) (st1 := []) (hs1 := sH_125 3 xs) (dc1 := 0) (ds1 := 0) (dc2 := 61) (ds2 := 146547) rfl rfl rfl rfl rfl ?_
  refine w_mv (pc1 := 92) (st1 := [.ref 30]) rfl rfl rfl ?_
  refine w_mv (pc1 := 93) (st1 := [.int 0, .ref 30]) rfl rfl rfl ?_
  refine w_st (pc1 := 96) (st1 := []) (hs1 := sH_125 3 xs) (dc1 := 0) (ds1 := 0) (dc2 := 61) (ds2 := 146547) rfl rfl rfl rfl rfl ?_
  refine w_mv (pc1 := 97) (st1 := [.ref 30]) rfl rfl rfl ?_
  refine w_mv (pc1 := 98) (st1 := [.int 0, .ref 30]) rfl rfl rfl ?_
  refine w_call (M' := sM_112) (vals := [.ref 30, .int 0]) (rest := []) (lv' := [(0, .ref 30), (1, .int 0)]) rfl rfl rfl rfl rfl rfl rfl rfl rfl rfl ?_
  refine w_mv (pc1 := 1) (st1 := [.ref 30]) rfl rfl rfl ?_
  refine w_mv (pc1 := 2) (st1 := [.int 0, .ref 30]) rfl rfl rfl ?_
  refine w_mv (pc1 := 9) (st1 := [.ref 30]) rfl rfl rfl ?_
  refine w_mv (pc1 := 10) (st1 := [.int 1, .ref 30]) rfl rfl rfl ?_
  refine w_st (pc1 := 13) (st1 := []) (hs1 := sH_126 3 xs) (dc1 := 0) (ds1 := 0) (dc2 := 61) (ds2 := 146547) rfl rfl rfl rfl rfl ?_
  refine w_mv (pc1 := 14) (st1 := [.int 0]) rfl rfl rfl ?_
  refine w_mv (pc1 := 17) (st1 := []) rfl rfl rfl ?_
  refine w_mv (pc1 := 18) (st1 := [.int 1]) rfl rfl rfl ?_
  refine w_mv (pc1 := 22) (st1 := [.int 1]) rfl rfl rfl ?_
  refine w_iret (pc1 := 101) rfl rfl rfl rfl ?_
  refine w_mv (pc1 := 104) (st1 := []) rfl rfl rfl ?_
  refine w_mv (pc1 := 105) (st1 := [.int 0]) rfl rfl rfl ?_
  refine w_iret (pc1 := 183) rfl rfl rfl rfl ?_
  refine w_mv (pc1 := 185) (lv1 := [(6, .int 0), (5, .int 1), (4, .int 0), (3, .ref 61), (2, .ref 30), (1, .ref 2), (0, .ref 0)]) (st1 := []) rfl rfl rfl ?_
  refine w_mv (pc1 := 186) (st1 := [.ref 30]) rfl rfl rfl ?_
  refine w_call (M' := sM_109) (vals := [.ref 30]) (rest := []) (lv' := [(0, .ref 30)]) rfl rfl rfl rfl rfl rfl rfl rfl rfl rfl ?_
  refine w_mv (pc1 := 1) (st1 := [.ref 30]) rfl rfl rfl ?_
  refine w_mv (pc1 := 4) (st1 := [.int 1]) rfl rfl rfl ?_
  refine w_iret (pc1 := 189) rfl rfl rfl rfl ?_
  refine w_mv (pc1 := 191) (st1 := [.int 1, .int 1]) rfl rfl rfl ?_
  refine w_mv (pc1 := 196) (st1 := []) rfl rfl rfl ?_
  refine w_mv (pc1 := 198) (st1 := [.int 1]) rfl rfl rfl ?_
  refine w_mv (pc1 := 213) (st1 := []) rfl rfl rfl ?_
  refine w_mv (pc1 := 501) (st1 := []) rfl rfl rfl ?_
  refine w_mv (pc1 := 504) (lv1 := [(4, .int 3), (6, .int 0), (5, .int 1), (3, .ref 61), (2, .ref 30), (1, .ref 2), (0, .ref 0)]) (st1 := []) rfl rfl rfl ?_
  refine w_mv (pc1 := 23) (st1 := []) rfl rfl rfl ?_
  refine w_mv (pc1 := 25) (st1 := [.int 3]) rfl rfl rfl ?_
  refine w_mv (pc1 := 26) (st1 := [.ref 0, .int 3]) rfl rfl rfl ?_
  refine w_mv (pc1 := 27) (st1 := [.int 3, .int 3]) rfl rfl rfl ?_
  refine w_mv (pc1 := 28) (st1 := [.int 3, .int 3, .int 3]) rfl rfl rfl ?_
  refine w_mv (pc1 := 29) (st1 := [.int 0, .int 3]) rfl rfl rfl ?_
  refine w_mv (pc1 := 507) (st1 := []) rfl rfl rfl ?_
  refine w_mv (pc1 := 508) (st1 := [.int 1]) rfl rfl rfl ?_
  exact sx_wp.stop rfl rfl rfl ⟨rfl, by decide, by decide⟩
set_option maxRecDepth 20000 in
set_option maxHeartbeats 4000000 in
theorem s_k_drop (xs : Nat → Int32)  : s_wp 20 sM_law 216 [(4, .int 0), (3, .ref 61), (2, .ref 30), (1, .ref 2), (0, .ref 0)] [] (sH_121 3 xs) 60 146541 s_fin := by
  refine w_mv (pc1 := 217) (st1 := [.ref 2]) rfl rfl rfl ?_
  refine w_mv (pc1 := 218) (st1 := [.ref 0, .ref 2]) rfl rfl rfl ?_
  refine w_mv (pc1 := 220) (st1 := [.int 0, .ref 0, .ref 2]) rfl rfl rfl ?_
  refine w_mv (pc1 := 221) (st1 := [.int 1, .int 0, .ref 0, .ref 2]) rfl rfl rfl ?_
  refine w_mv (pc1 := 222) (st1 := [.int 1, .ref 0, .ref 2]) rfl rfl rfl ?_
  refine w_mv (pc1 := 223) (st1 := [.int (xs 1), .ref 2]) rfl rfl rfl ?_
  refine w_call (M' := sM_43) (vals := [.ref 2, .int (xs 1)]) (rest := []) (lv' := [(0, .ref 2), (1, .int (xs 1))]) rfl rfl rfl rfl rfl rfl rfl rfl rfl rfl ?_
  refine w_mv (pc1 := 1) (st1 := [.ref 2]) rfl rfl rfl ?_
  refine w_mv (pc1 := 2) (st1 := [.int (xs 1), .ref 2]) rfl rfl rfl ?_
  refine w_call (M' := sM_44) (vals := [.ref 2, .int (xs 1)]) (rest := []) (lv' := [(0, .ref 2), (1, .int (xs 1))]) rfl rfl rfl rfl rfl rfl rfl rfl rfl rfl ?_
  refine w_mv (pc1 := 1) (st1 := [.int (xs 1)]) rfl rfl rfl ?_
  by_cases h1 : (xs 1).toInt < 0
  ·
    refine w_zlt_T (pc1 := 15) rfl rfl (show (xs 1).toInt < 0 by omega) ?_
    refine w_thr (x := 62) (h9 := 8) (hs1 := sH_127 3 xs) (dc2 := 61) (ds2 := 146547) rfl rfl rfl rfl rfl rfl rfl rfl rfl rfl rfl ?_
    refine w_mv (pc1 := 9) (lv1 := [(2, .ref 62), (0, .ref 2), (1, .int (xs 1))]) (st1 := []) rfl rfl rfl ?_
    refine w_mv (pc1 := 10) (st1 := [.int 1]) rfl rfl rfl ?_
    refine w_iret (pc1 := 226) rfl rfl rfl rfl ?_
    refine w_mv (pc1 := 228) (lv1 := [(5, .int 1), (4, .int 0), (3, .ref 61), (2, .ref 30), (1, .ref 2), (0, .ref 0)]) (st1 := []) rfl rfl rfl ?_
    refine w_mv (pc1 := 229) (st1 := [.ref 30]) rfl rfl rfl ?_
    refine w_mv (pc1 := 230) (st1 := [.ref 0, .ref 30]) rfl rfl rfl ?_
    refine w_mv (pc1 := 232) (st1 := [.int 0, .ref 0, .ref 30]) rfl rfl rfl ?_
    refine w_mv (pc1 := 233) (st1 := [.int 1, .int 0, .ref 0, .ref 30]) rfl rfl rfl ?_
    refine w_mv (pc1 := 234) (st1 := [.int 1, .ref 0, .ref 30]) rfl rfl rfl ?_
    refine w_mv (pc1 := 235) (st1 := [.int (xs 1), .ref 30]) rfl rfl rfl ?_
    refine w_call (M' := sM_120) (vals := [.ref 30, .int (xs 1)]) (rest := []) (lv' := [(0, .ref 30), (1, .int (xs 1))]) rfl rfl rfl rfl rfl rfl rfl rfl rfl rfl ?_
    refine w_mv (pc1 := 1) (st1 := [.ref 30]) rfl rfl rfl ?_
    refine w_mv (pc1 := 2) (st1 := [.int (xs 1), .ref 30]) rfl rfl rfl ?_
    refine w_mv (pc1 := 3) (st1 := [.int 0, .int (xs 1), .ref 30]) rfl rfl rfl ?_
    refine w_mv (pc1 := 4) (st1 := [.ref 30, .int 0, .int (xs 1), .ref 30]) rfl rfl rfl ?_
    refine w_mv (pc1 := 7) (st1 := [.int 0, .int 0, .int (xs 1), .ref 30]) rfl rfl rfl ?_
    refine w_mv (pc1 := 8) (st1 := [.int 1, .int 0, .int 0, .int (xs 1), .ref 30]) rfl rfl rfl ?_
    refine w_mv (pc1 := 9) (st1 := [.int (-1), .int 0, .int (xs 1), .ref 30]) rfl rfl rfl ?_
    refine w_call (M' := sM_111) (vals := [.int (xs 1), .int 0, .int (-1)]) (rest := [.ref 30]) (lv' := [(0, .int (xs 1)), (1, .int 0), (2, .int (-1))]) rfl rfl rfl rfl rfl rfl rfl rfl rfl rfl ?_
    refine w_mv (pc1 := 1) (st1 := [.int (xs 1)]) rfl rfl rfl ?_
    refine w_mv (pc1 := 2) (st1 := [.int 0, .int (xs 1)]) rfl rfl rfl ?_
    refine w_ilt_T (pc1 := 14) rfl rfl (show (xs 1).toInt < 0 by omega) ?_
    refine w_mv (pc1 := 15) (st1 := [.int 0]) rfl rfl rfl ?_
    refine w_iret (pc1 := 12) rfl rfl rfl rfl ?_
    refine w_call (M' := sM_112) (vals := [.ref 30, .int 0]) (rest := []) (lv' := [(0, .ref 30), (1, .int 0)]) rfl rfl rfl rfl rfl rfl rfl rfl rfl rfl ?_
    refine w_mv (pc1 := 1) (st1 := [.ref 30]) rfl rfl rfl ?_
    refine w_mv (pc1 := 2) (st1 := [.int 0, .ref 30]) rfl rfl rfl ?_
    refine w_mv (pc1 := 9) (st1 := [.ref 30]) rfl rfl rfl ?_
    refine w_mv (pc1 := 10) (st1 := [.int 1, .ref 30]) rfl rfl rfl ?_
    refine w_st (pc1 := 13) (st1 := []) (hs1 := sH_128 3 xs) (dc1 := 0) (ds1 := 0) (dc2 := 61) (ds2 := 146547) rfl rfl rfl rfl rfl ?_
    refine w_mv (pc1 := 14) (st1 := [.int 0]) rfl rfl rfl ?_
    refine w_mv (pc1 := 17) (st1 := []) rfl rfl rfl ?_
    refine w_mv (pc1 := 18) (st1 := [.int 1]) rfl rfl rfl ?_
    refine w_mv (pc1 := 22) (st1 := [.int 1]) rfl rfl rfl ?_
    refine w_iret (pc1 := 15) rfl rfl rfl rfl ?_
    refine w_mv (pc1 := 18) (st1 := []) rfl rfl rfl ?_
    refine w_vret (pc1 := 238) rfl rfl rfl ?_
    refine w_mv (pc1 := 239) (st1 := [.ref 30]) rfl rfl rfl ?_
    refine w_call (M' := sM_109) (vals := [.ref 30]) (rest := []) (lv' := [(0, .ref 30)]) rfl rfl rfl rfl rfl rfl rfl rfl rfl rfl ?_
    refine w_mv (pc1 := 1) (st1 := [.ref 30]) rfl rfl rfl ?_
    refine w_mv (pc1 := 4) (st1 := [.int 1]) rfl rfl rfl ?_
    refine w_iret (pc1 := 242) rfl rfl rfl rfl ?_
    refine w_mv (pc1 := 244) (st1 := [.int 1, .int 1]) rfl rfl rfl ?_
    refine w_mv (pc1 := 249) (st1 := []) rfl rfl rfl ?_
    refine w_mv (pc1 := 501) (st1 := []) rfl rfl rfl ?_
    refine w_mv (pc1 := 504) (lv1 := [(4, .int 3), (5, .int 1), (3, .ref 61), (2, .ref 30), (1, .ref 2), (0, .ref 0)]) (st1 := []) rfl rfl rfl ?_
    refine w_mv (pc1 := 23) (st1 := []) rfl rfl rfl ?_
    refine w_mv (pc1 := 25) (st1 := [.int 3]) rfl rfl rfl ?_
    refine w_mv (pc1 := 26) (st1 := [.ref 0, .int 3]) rfl rfl rfl ?_
    refine w_mv (pc1 := 27) (st1 := [.int 3, .int 3]) rfl rfl rfl ?_
    refine w_mv (pc1 := 28) (st1 := [.int 3, .int 3, .int 3]) rfl rfl rfl ?_
    refine w_mv (pc1 := 29) (st1 := [.int 0, .int 3]) rfl rfl rfl ?_
    refine w_mv (pc1 := 507) (st1 := []) rfl rfl rfl ?_
    refine w_mv (pc1 := 508) (st1 := [.int 1]) rfl rfl rfl ?_
    exact sx_wp.stop rfl rfl rfl ⟨rfl, by decide, by decide⟩
  ·
    refine w_zlt_F (pc1 := 4) rfl (by decide) rfl (show 0 ≤ (xs 1).toInt by omega) ?_
    refine w_mv (pc1 := 5) (st1 := [.int (xs 1)]) rfl rfl rfl ?_
    refine w_mv (pc1 := 6) (st1 := [.ref 2, .int (xs 1)]) rfl rfl rfl ?_
    refine w_mv (pc1 := 9) (st1 := [.ref 5, .int (xs 1)]) rfl rfl rfl ?_
    refine w_call (M' := sM_165) (vals := [.ref 5]) (rest := [.int (xs 1)]) (lv' := [(0, .ref 5)]) rfl rfl rfl rfl rfl rfl rfl rfl rfl rfl ?_
    refine w_mv (pc1 := 1) (st1 := [.ref 5]) rfl rfl rfl ?_
    refine w_mv (pc1 := 4) (st1 := [.int 0]) rfl rfl rfl ?_
    refine w_iret (pc1 := 12) rfl rfl rfl rfl ?_
    refine w_ilt_F (pc1 := 15) rfl (by decide) rfl (show 0 ≤ (xs 1).toInt by omega) ?_
    refine w_thr (x := 62) (h9 := 8) (hs1 := sH_127 3 xs) (dc2 := 61) (ds2 := 146547) rfl rfl rfl rfl rfl rfl rfl rfl rfl rfl rfl ?_
    refine w_mv (pc1 := 9) (lv1 := [(2, .ref 62), (0, .ref 2), (1, .int (xs 1))]) (st1 := []) rfl rfl rfl ?_
    refine w_mv (pc1 := 10) (st1 := [.int 1]) rfl rfl rfl ?_
    refine w_iret (pc1 := 226) rfl rfl rfl rfl ?_
    refine w_mv (pc1 := 228) (lv1 := [(5, .int 1), (4, .int 0), (3, .ref 61), (2, .ref 30), (1, .ref 2), (0, .ref 0)]) (st1 := []) rfl rfl rfl ?_
    refine w_mv (pc1 := 229) (st1 := [.ref 30]) rfl rfl rfl ?_
    refine w_mv (pc1 := 230) (st1 := [.ref 0, .ref 30]) rfl rfl rfl ?_
    refine w_mv (pc1 := 232) (st1 := [.int 0, .ref 0, .ref 30]) rfl rfl rfl ?_
    refine w_mv (pc1 := 233) (st1 := [.int 1, .int 0, .ref 0, .ref 30]) rfl rfl rfl ?_
    refine w_mv (pc1 := 234) (st1 := [.int 1, .ref 0, .ref 30]) rfl rfl rfl ?_
    refine w_mv (pc1 := 235) (st1 := [.int (xs 1), .ref 30]) rfl rfl rfl ?_
    refine w_call (M' := sM_120) (vals := [.ref 30, .int (xs 1)]) (rest := []) (lv' := [(0, .ref 30), (1, .int (xs 1))]) rfl rfl rfl rfl rfl rfl rfl rfl rfl rfl ?_
    refine w_mv (pc1 := 1) (st1 := [.ref 30]) rfl rfl rfl ?_
    refine w_mv (pc1 := 2) (st1 := [.int (xs 1), .ref 30]) rfl rfl rfl ?_
    refine w_mv (pc1 := 3) (st1 := [.int 0, .int (xs 1), .ref 30]) rfl rfl rfl ?_
    refine w_mv (pc1 := 4) (st1 := [.ref 30, .int 0, .int (xs 1), .ref 30]) rfl rfl rfl ?_
    refine w_mv (pc1 := 7) (st1 := [.int 0, .int 0, .int (xs 1), .ref 30]) rfl rfl rfl ?_
    refine w_mv (pc1 := 8) (st1 := [.int 1, .int 0, .int 0, .int (xs 1), .ref 30]) rfl rfl rfl ?_
    refine w_mv (pc1 := 9) (st1 := [.int (-1), .int 0, .int (xs 1), .ref 30]) rfl rfl rfl ?_
    refine w_call (M' := sM_111) (vals := [.int (xs 1), .int 0, .int (-1)]) (rest := [.ref 30]) (lv' := [(0, .int (xs 1)), (1, .int 0), (2, .int (-1))]) rfl rfl rfl rfl rfl rfl rfl rfl rfl rfl ?_
    refine w_mv (pc1 := 1) (st1 := [.int (xs 1)]) rfl rfl rfl ?_
    refine w_mv (pc1 := 2) (st1 := [.int 0, .int (xs 1)]) rfl rfl rfl ?_
    refine w_ilt_F (pc1 := 5) rfl (by decide) rfl (show 0 ≤ (xs 1).toInt by omega) ?_
    refine w_mv (pc1 := 6) (st1 := [.int (xs 1)]) rfl rfl rfl ?_
    refine w_mv (pc1 := 7) (st1 := [.int (-1), .int (xs 1)]) rfl rfl rfl ?_
    refine w_igt_T (pc1 := 14) rfl rfl (show (-1) < (xs 1).toInt by omega) ?_
    refine w_mv (pc1 := 15) (st1 := [.int 0]) rfl rfl rfl ?_
    refine w_iret (pc1 := 12) rfl rfl rfl rfl ?_
    refine w_call (M' := sM_112) (vals := [.ref 30, .int 0]) (rest := []) (lv' := [(0, .ref 30), (1, .int 0)]) rfl rfl rfl rfl rfl rfl rfl rfl rfl rfl ?_
    refine w_mv (pc1 := 1) (st1 := [.ref 30]) rfl rfl rfl ?_
    refine w_mv (pc1 := 2) (st1 := [.int 0, .ref 30]) rfl rfl rfl ?_
    refine w_mv (pc1 := 9) (st1 := [.ref 30]) rfl rfl rfl ?_
    refine w_mv (pc1 := 10) (st1 := [.int 1, .ref 30]) rfl rfl rfl ?_
    refine w_st (pc1 := 13) (st1 := []) (hs1 := sH_128 3 xs) (dc1 := 0) (ds1 := 0) (dc2 := 61) (ds2 := 146547) rfl rfl rfl rfl rfl ?_
    refine w_mv (pc1 := 14) (st1 := [.int 0]) rfl rfl rfl ?_
    refine w_mv (pc1 := 17) (st1 := []) rfl rfl rfl ?_
    refine w_mv (pc1 := 18) (st1 := [.int 1]) rfl rfl rfl ?_
    refine w_mv (pc1 := 22) (st1 := [.int 1]) rfl rfl rfl ?_
    refine w_iret (pc1 := 15) rfl rfl rfl rfl ?_
    refine w_mv (pc1 := 18) (st1 := []) rfl rfl rfl ?_
    refine w_vret (pc1 := 238) rfl rfl rfl ?_
    refine w_mv (pc1 := 239) (st1 := [.ref 30]) rfl rfl rfl ?_
    refine w_call (M' := sM_109) (vals := [.ref 30]) (rest := []) (lv' := [(0, .ref 30)]) rfl rfl rfl rfl rfl rfl rfl rfl rfl rfl ?_
    refine w_mv (pc1 := 1) (st1 := [.ref 30]) rfl rfl rfl ?_
    refine w_mv (pc1 := 4) (st1 := [.int 1]) rfl rfl rfl ?_
    refine w_iret (pc1 := 242) rfl rfl rfl rfl ?_
    refine w_mv (pc1 := 244) (st1 := [.int 1, .int 1]) rfl rfl rfl ?_
    refine w_mv (pc1 := 249) (st1 := []) rfl rfl rfl ?_
    refine w_mv (pc1 := 501) (st1 := []) rfl rfl rfl ?_
    refine w_mv (pc1 := 504) (lv1 := [(4, .int 3), (5, .int 1), (3, .ref 61), (2, .ref 30), (1, .ref 2), (0, .ref 0)]) (st1 := []) rfl rfl rfl ?_
    refine w_mv (pc1 := 23) (st1 := []) rfl rfl rfl ?_
    refine w_mv (pc1 := 25) (st1 := [.int 3]) rfl rfl rfl ?_
    refine w_mv (pc1 := 26) (st1 := [.ref 0, .int 3]) rfl rfl rfl ?_
    refine w_mv (pc1 := 27) (st1 := [.int 3, .int 3]) rfl rfl rfl ?_
    refine w_mv (pc1 := 28) (st1 := [.int 3, .int 3, .int 3]) rfl rfl rfl ?_
    refine w_mv (pc1 := 29) (st1 := [.int 0, .int 3]) rfl rfl rfl ?_
    refine w_mv (pc1 := 507) (st1 := []) rfl rfl rfl ?_
    refine w_mv (pc1 := 508) (st1 := [.int 1]) rfl rfl rfl ?_
    exact sx_wp.stop rfl rfl rfl ⟨rfl, by decide, by decide⟩
set_option maxRecDepth 20000 in
set_option maxHeartbeats 4000000 in
theorem s_k_ask (xs : Nat → Int32)  : s_wp 20 sM_law 252 [(4, .int 0), (3, .ref 61), (2, .ref 30), (1, .ref 2), (0, .ref 0)] [] (sH_121 3 xs) 60 146541 s_fin := by
  refine w_mv (pc1 := 253) (st1 := [.ref 2]) rfl rfl rfl ?_
  refine w_mv (pc1 := 254) (st1 := [.ref 61, .ref 2]) rfl rfl rfl ?_
  refine w_call (M' := sM_45) (vals := [.ref 2, .ref 61]) (rest := []) (lv' := [(0, .ref 2), (1, .ref 61)]) rfl rfl rfl rfl rfl rfl rfl rfl rfl rfl ?_
  refine w_mv (pc1 := 1) (st1 := [.ref 61]) rfl rfl rfl ?_
  refine w_mv (pc1 := 2) (st1 := [.int 0, .ref 61]) rfl rfl rfl ?_
  refine w_mv (pc1 := 3) (st1 := [.ref 2, .int 0, .ref 61]) rfl rfl rfl ?_
  refine w_call (M' := sM_46) (vals := [.ref 2]) (rest := [.int 0, .ref 61]) (lv' := [(0, .ref 2)]) rfl rfl rfl rfl rfl rfl rfl rfl rfl rfl ?_
  refine w_mv (pc1 := 1) (st1 := [.ref 2]) rfl rfl rfl ?_
  refine w_mv (pc1 := 4) (st1 := [.ref 3]) rfl rfl rfl ?_
  refine w_call (M' := sM_47) (vals := [.ref 3]) (rest := []) (lv' := [(0, .ref 3)]) rfl rfl rfl rfl rfl rfl rfl rfl rfl rfl ?_
  refine w_mv (pc1 := 1) (st1 := [.ref 3]) rfl rfl rfl ?_
  refine w_mv (pc1 := 2) (st1 := [.int 0, .ref 3]) rfl rfl rfl ?_
  refine w_st (pc1 := 5) (st1 := []) (hs1 := sH_121 3 xs) (dc1 := 0) (ds1 := 0) (dc2 := 60) (ds2 := 146541) rfl rfl rfl rfl rfl ?_
  refine w_st (pc1 := 8) (st1 := [.ref 62]) (hs1 := sH_129 3 xs) (dc1 := 1) (ds1 := 3) (dc2 := 61) (ds2 := 146544) rfl rfl rfl rfl rfl ?_
  refine w_mv (pc1 := 9) (st1 := [.ref 62, .ref 62]) rfl rfl rfl ?_
  refine w_call (M' := sM_160) (vals := [.ref 62]) (rest := [.ref 62]) (lv' := [(0, .ref 62)]) rfl rfl rfl rfl rfl rfl rfl rfl rfl rfl ?_
  refine w_mv (pc1 := 1) (st1 := [.ref 62]) rfl rfl rfl ?_
  refine w_call (M' := sM_161) (vals := [.ref 62]) (rest := []) (lv' := [(0, .ref 62)]) rfl rfl rfl rfl rfl rfl rfl rfl rfl rfl ?_
  refine w_mv (pc1 := 1) (st1 := [.ref 62]) rfl rfl rfl ?_
  refine w_call (M' := sM_162) (vals := [.ref 62]) (rest := []) (lv' := [(0, .ref 62)]) rfl rfl rfl rfl rfl rfl rfl rfl rfl rfl ?_
  refine w_mv (pc1 := 1) (st1 := [.ref 62]) rfl rfl rfl ?_
  refine w_obj (pc1 := 4) (st1 := []) rfl rfl rfl (by decide) rfl ?_
  refine w_vret (pc1 := 4) rfl rfl rfl ?_
  refine w_mv (pc1 := 5) (st1 := [.ref 62]) rfl rfl rfl ?_
  refine w_mv (pc1 := 6) (st1 := [.int 0, .ref 62]) rfl rfl rfl ?_
  refine w_st (pc1 := 9) (st1 := []) (hs1 := sH_129 3 xs) (dc1 := 0) (ds1 := 0) (dc2 := 61) (ds2 := 146544) rfl rfl rfl rfl rfl ?_
  refine w_vret (pc1 := 4) rfl rfl rfl ?_
  refine w_mv (pc1 := 5) (st1 := [.ref 62]) rfl rfl rfl ?_
  refine w_mv (pc1 := 8) (st1 := [.ref 1, .ref 62]) rfl rfl rfl ?_
  refine w_st (pc1 := 11) (st1 := []) (hs1 := sH_130 3 xs) (dc1 := 0) (ds1 := 0) (dc2 := 61) (ds2 := 146544) rfl rfl rfl rfl rfl ?_
  refine w_vret (pc1 := 12) rfl rfl rfl ?_
  refine w_mv (pc1 := 13) (lv1 := [(1, .ref 62), (0, .ref 3)]) (st1 := []) rfl rfl rfl ?_
  refine w_mv (pc1 := 14) (st1 := [.ref 3]) rfl rfl rfl ?_
  refine w_mv (pc1 := 15) (st1 := [.ref 62, .ref 3]) rfl rfl rfl ?_
  refine w_mv (pc1 := 16) (st1 := [.int 0, .ref 62, .ref 3]) rfl rfl rfl ?_
  refine w_call (M' := sM_36) (vals := [.ref 3, .ref 62, .int 0]) (rest := []) (lv' := [(0, .ref 3), (1, .ref 62), (2, .int 0)]) rfl rfl rfl rfl rfl rfl rfl rfl rfl rfl ?_
  refine w_mv (pc1 := 1) (st1 := [.int 0]) rfl rfl rfl ?_
  refine w_mv (pc1 := 2) (lv1 := [(3, .int 0), (0, .ref 3), (1, .ref 62), (2, .int 0)]) (st1 := []) rfl rfl rfl ?_
  refine w_mv (pc1 := 3) (st1 := [.int 0]) rfl rfl rfl ?_
  refine w_mv (pc1 := 5) (st1 := [.int 48, .int 0]) rfl rfl rfl ?_
  refine w_mv (pc1 := 8) (st1 := []) rfl rfl rfl ?_
  refine w_mv (pc1 := 9) (st1 := [.int 0]) rfl rfl rfl ?_
  refine w_mv (pc1 := 19) (st1 := []) rfl rfl rfl ?_
  refine w_mv (pc1 := 20) (st1 := [.ref 3]) rfl rfl rfl ?_
  refine w_call (M' := sM_39) (vals := [.ref 3]) (rest := []) (lv' := [(0, .ref 3)]) rfl rfl rfl rfl rfl rfl rfl rfl rfl rfl ?_
  refine w_mv (pc1 := 1) (st1 := [.ref 3]) rfl rfl rfl ?_
  refine w_mv (pc1 := 2) (st1 := [.int 1, .ref 3]) rfl rfl rfl ?_
  refine w_call (M' := sM_28) (vals := [.ref 3, .int 1]) (rest := []) (lv' := [(0, .ref 3), (1, .int 1)]) rfl rfl rfl rfl rfl rfl rfl rfl rfl rfl ?_
  refine w_mv (pc1 := 1) (st1 := [.ref 3]) rfl rfl rfl ?_
  refine w_call (M' := sM_26) (vals := [.ref 3]) (rest := []) (lv' := [(0, .ref 3)]) rfl rfl rfl rfl rfl rfl rfl rfl rfl rfl ?_
  refine w_mv (pc1 := 1) (st1 := [.ref 3]) rfl rfl rfl ?_
  refine w_mv (pc1 := 4) (st1 := [.int 0]) rfl rfl rfl ?_
  refine w_mv (pc1 := 5) (st1 := [.ref 3, .int 0]) rfl rfl rfl ?_
  refine w_mv (pc1 := 8) (st1 := [.int 0, .int 0]) rfl rfl rfl ?_
  refine w_mv (pc1 := 23) (st1 := []) rfl rfl rfl ?_
  refine w_mv (pc1 := 24) (st1 := [.int 0]) rfl rfl rfl ?_
  refine w_iret (pc1 := 4) rfl rfl rfl rfl ?_
  refine w_mv (pc1 := 5) (lv1 := [(2, .int 0), (0, .ref 3), (1, .int 1)]) (st1 := []) rfl rfl rfl ?_
  refine w_mv (pc1 := 6) (st1 := [.int 0]) rfl rfl rfl ?_
  refine w_mv (pc1 := 8) (st1 := [.int 65, .int 0]) rfl rfl rfl ?_
  refine w_mv (pc1 := 40) (st1 := []) rfl rfl rfl ?_
  refine w_mv (pc1 := 41) (st1 := [.int 0]) rfl rfl rfl ?_
  refine w_call (M' := sM_30) (vals := [.int 0]) (rest := []) (lv' := [(0, .int 0)]) rfl rfl rfl rfl rfl rfl rfl rfl rfl rfl ?_
  refine w_mv (pc1 := 1) (st1 := [.int 0]) rfl rfl rfl ?_
  refine w_mv (pc1 := 3) (st1 := [.int 48, .int 0]) rfl rfl rfl ?_
  refine w_mv (pc1 := 16) (st1 := []) rfl rfl rfl ?_
  refine w_mv (pc1 := 17) (st1 := [.int 0]) rfl rfl rfl ?_
  refine w_iret (pc1 := 44) rfl rfl rfl rfl ?_
  refine w_mv (pc1 := 52) (st1 := []) rfl rfl rfl ?_
  refine w_mv (pc1 := 53) (st1 := [.int 0]) rfl rfl rfl ?_
  refine w_call (M' := sM_27) (vals := [.int 0]) (rest := []) (lv' := [(0, .int 0)]) rfl rfl rfl rfl rfl rfl rfl rfl rfl rfl ?_
  refine w_mv (pc1 := 1) (st1 := [.int 0]) rfl rfl rfl ?_
  refine w_mv (pc1 := 3) (st1 := [.int 97, .int 0]) rfl rfl rfl ?_
  refine w_mv (pc1 := 16) (st1 := []) rfl rfl rfl ?_
  refine w_mv (pc1 := 17) (st1 := [.int 0]) rfl rfl rfl ?_
  refine w_iret (pc1 := 56) rfl rfl rfl rfl ?_
  refine w_mv (pc1 := 59) (st1 := []) rfl rfl rfl ?_
  refine w_mv (pc1 := 60) (st1 := [.null]) rfl rfl rfl ?_
  refine w_nret (pc1 := 5) rfl rfl rfl rfl ?_
  refine w_mv (pc1 := 6) (lv1 := [(1, .null), (0, .ref 3)]) (st1 := []) rfl rfl rfl ?_
  refine w_mv (pc1 := 7) (st1 := [.null]) rfl rfl rfl ?_
  refine w_mv (pc1 := 10) (st1 := []) rfl rfl rfl ?_
  refine w_mv (pc1 := 11) (st1 := [.null]) rfl rfl rfl ?_
  refine w_nret (pc1 := 23) rfl rfl rfl rfl ?_
  refine w_mv (pc1 := 25) (lv1 := [(4, .null), (3, .int 0), (0, .ref 3), (1, .ref 62), (2, .int 0)]) (st1 := []) rfl rfl rfl ?_
  refine w_mv (pc1 := 27) (st1 := [.null]) rfl rfl rfl ?_
  refine w_mv (pc1 := 30) (st1 := []) rfl rfl rfl ?_
  refine w_mv (pc1 := 31) (st1 := [.int 0]) rfl rfl rfl ?_
  refine w_iret (pc1 := 19) rfl rfl rfl rfl ?_
  refine w_mv (pc1 := 37) (st1 := []) rfl rfl rfl ?_
  refine w_mv (pc1 := 38) (st1 := [.null]) rfl rfl rfl ?_
  refine w_nret (pc1 := 7) rfl rfl rfl rfl ?_
  refine w_mv (pc1 := 8) (lv1 := [(1, .null), (0, .ref 2)]) (st1 := []) rfl rfl rfl ?_
  refine w_mv (pc1 := 9) (st1 := [.ref 2]) rfl rfl rfl ?_
  refine w_mv (pc1 := 12) (st1 := [.ref 3]) rfl rfl rfl ?_
  refine w_call (M' := sM_24) (vals := [.ref 3]) (rest := []) (lv' := [(0, .ref 3)]) rfl rfl rfl rfl rfl rfl rfl rfl rfl rfl ?_
  refine w_mv (pc1 := 1) (st1 := [.ref 3]) rfl rfl rfl ?_
  refine w_mv (pc1 := 2) (st1 := [.int 0, .ref 3]) rfl rfl rfl ?_
  refine w_st (pc1 := 5) (st1 := []) (hs1 := sH_130 3 xs) (dc1 := 0) (ds1 := 0) (dc2 := 61) (ds2 := 146544) rfl rfl rfl rfl rfl ?_
  refine w_vret (pc1 := 15) rfl rfl rfl ?_
  refine w_mv (pc1 := 16) (st1 := [.null]) rfl rfl rfl ?_
  refine w_mv (pc1 := 19) (st1 := []) rfl rfl rfl ?_
  refine w_mv (pc1 := 20) (st1 := [.ref 2]) rfl rfl rfl ?_
  refine w_mv (pc1 := 21) (st1 := [.ref 2, .ref 2]) rfl rfl rfl ?_
  refine w_mv (pc1 := 24) (st1 := [.ref 3, .ref 2]) rfl rfl rfl ?_
  refine w_call (M' := sM_42) (vals := [.ref 3]) (rest := [.ref 2]) (lv' := [(0, .ref 3)]) rfl rfl rfl rfl rfl rfl rfl rfl rfl rfl ?_
  refine w_mv (pc1 := 1) (st1 := [.ref 3]) rfl rfl rfl ?_
  refine w_mv (pc1 := 4) (st1 := [.int 0]) rfl rfl rfl ?_
  refine w_iret (pc1 := 27) rfl rfl rfl rfl ?_
  refine w_st (pc1 := 30) (st1 := []) (hs1 := sH_131 3 xs) (dc1 := 0) (ds1 := 0) (dc2 := 61) (ds2 := 146544) rfl rfl rfl rfl rfl ?_
  refine w_thr (x := 63) (h9 := 11) (hs1 := sH_132 3 xs) (dc2 := 62) (ds2 := 146550) rfl rfl rfl rfl rfl rfl rfl rfl rfl rfl rfl ?_
  refine w_mv (pc1 := 12) (lv1 := [(2, .ref 63), (0, .ref 2), (1, .ref 61)]) (st1 := []) rfl rfl rfl ?_
  refine w_mv (pc1 := 13) (st1 := [.int 1]) rfl rfl rfl ?_
  refine w_iret (pc1 := 257) rfl rfl rfl rfl ?_
  refine w_mv (pc1 := 259) (lv1 := [(5, .int 1), (4, .int 0), (3, .ref 61), (2, .ref 30), (1, .ref 2), (0, .ref 0)]) (st1 := []) rfl rfl rfl ?_
  refine w_mv (pc1 := 260) (st1 := [.ref 30]) rfl rfl rfl ?_
  refine w_call (M' := sM_121) (vals := [.ref 30]) (rest := []) (lv' := [(0, .ref 30)]) rfl rfl rfl rfl rfl rfl rfl rfl rfl rfl ?_
  refine w_mv (pc1 := 1) (st1 := [.ref 30]) rfl rfl rfl ?_
  refine w_mv (pc1 := 2) (st1 := [.int 0, .ref 30]) rfl rfl rfl ?_
  refine w_st (pc1 := 5) (st1 := []) (hs1 := sH_132 3 xs) (dc1 := 0) (ds1 := 0) (dc2 := 62) (ds2 := 146550) rfl rfl rfl rfl rfl ?_
  refine w_mv (pc1 := 6) (st1 := [.ref 30]) rfl rfl rfl ?_
  refine w_call (M' := sM_119) (vals := [.ref 30]) (rest := []) (lv' := [(0, .ref 30)]) rfl rfl rfl rfl rfl rfl rfl rfl rfl rfl ?_
  refine w_mv (pc1 := 1) (st1 := [.ref 30]) rfl rfl rfl ?_
  refine w_call (M' := sM_117) (vals := [.ref 30]) (rest := []) (lv' := [(0, .ref 30)]) rfl rfl rfl rfl rfl rfl rfl rfl rfl rfl ?_
  refine w_mv (pc1 := 1) (st1 := [.ref 30]) rfl rfl rfl ?_
  refine w_mv (pc1 := 4) (st1 := [.int 0]) rfl rfl rfl ?_
  refine w_mv (pc1 := 5) (st1 := [.ref 30, .int 0]) rfl rfl rfl ?_
  refine w_mv (pc1 := 8) (st1 := [.int 0, .int 0]) rfl rfl rfl ?_
  refine w_mv (pc1 := 23) (st1 := []) rfl rfl rfl ?_
  refine w_mv (pc1 := 24) (st1 := [.int 0]) rfl rfl rfl ?_
  refine w_iret (pc1 := 4) rfl rfl rfl rfl ?_
  refine w_mv (pc1 := 6) (st1 := [.int 97, .int 0]) rfl rfl rfl ?_
  refine w_mv (pc1 := 8) (st1 := [.int 122, .int 97, .int 0]) rfl rfl rfl ?_
  refine w_call (M' := sM_111) (vals := [.int 0, .int 97, .int 122]) (rest := []) (lv' := [(0, .int 0), (1, .int 97), (2, .int 122)]) rfl rfl rfl rfl rfl rfl rfl rfl rfl rfl ?_
  refine w_mv (pc1 := 1) (st1 := [.int 0]) rfl rfl rfl ?_
  refine w_mv (pc1 := 2) (st1 := [.int 97, .int 0]) rfl rfl rfl ?_
  refine w_mv (pc1 := 14) (st1 := []) rfl rfl rfl ?_
  refine w_mv (pc1 := 15) (st1 := [.int 0]) rfl rfl rfl ?_
  refine w_iret (pc1 := 11) rfl rfl rfl rfl ?_
  refine w_mv (pc1 := 12) (lv1 := [(1, .int 0), (0, .ref 30)]) (st1 := []) rfl rfl rfl ?_
  refine w_mv (pc1 := 13) (st1 := [.ref 30]) rfl rfl rfl ?_
  refine w_call (M' := sM_117) (vals := [.ref 30]) (rest := []) (lv' := [(0, .ref 30)]) rfl rfl rfl rfl rfl rfl rfl rfl rfl rfl ?_
  refine w_mv (pc1 := 1) (st1 := [.ref 30]) rfl rfl rfl ?_
  refine w_mv (pc1 := 4) (st1 := [.int 0]) rfl rfl rfl ?_
  refine w_mv (pc1 := 5) (st1 := [.ref 30, .int 0]) rfl rfl rfl ?_
  refine w_mv (pc1 := 8) (st1 := [.int 0, .int 0]) rfl rfl rfl ?_
  refine w_mv (pc1 := 23) (st1 := []) rfl rfl rfl ?_
  refine w_mv (pc1 := 24) (st1 := [.int 0]) rfl rfl rfl ?_
  refine w_iret (pc1 := 16) rfl rfl rfl rfl ?_
  refine w_mv (pc1 := 18) (st1 := [.int 65, .int 0]) rfl rfl rfl ?_
  refine w_mv (pc1 := 20) (st1 := [.int 90, .int 65, .int 0]) rfl rfl rfl ?_
  refine w_call (M' := sM_111) (vals := [.int 0, .int 65, .int 90]) (rest := []) (lv' := [(0, .int 0), (1, .int 65), (2, .int 90)]) rfl rfl rfl rfl rfl rfl rfl rfl rfl rfl ?_
  refine w_mv (pc1 := 1) (st1 := [.int 0]) rfl rfl rfl ?_
  refine w_mv (pc1 := 2) (st1 := [.int 65, .int 0]) rfl rfl rfl ?_
  refine w_mv (pc1 := 14) (st1 := []) rfl rfl rfl ?_
  refine w_mv (pc1 := 15) (st1 := [.int 0]) rfl rfl rfl ?_
  refine w_iret (pc1 := 23) rfl rfl rfl rfl ?_
  refine w_mv (pc1 := 24) (lv1 := [(2, .int 0), (1, .int 0), (0, .ref 30)]) (st1 := []) rfl rfl rfl ?_
  refine w_mv (pc1 := 25) (st1 := [.ref 30]) rfl rfl rfl ?_
  refine w_mv (pc1 := 26) (st1 := [.int 0, .ref 30]) rfl rfl rfl ?_
  refine w_call (M' := sM_116) (vals := [.ref 30, .int 0]) (rest := []) (lv' := [(0, .ref 30), (1, .int 0)]) rfl rfl rfl rfl rfl rfl rfl rfl rfl rfl ?_
  refine w_mv (pc1 := 1) (st1 := [.int 1]) rfl rfl rfl ?_
  refine w_mv (pc1 := 2) (lv1 := [(2, .int 1), (0, .ref 30), (1, .int 0)]) (st1 := []) rfl rfl rfl ?_
  refine w_mv (pc1 := 3) (st1 := [.int 1]) rfl rfl rfl ?_
  refine w_mv (pc1 := 4) (lv1 := [(3, .int 1), (2, .int 1), (0, .ref 30), (1, .int 0)]) (st1 := []) rfl rfl rfl ?_
  refine w_mv (pc1 := 5) (st1 := [.int 1]) rfl rfl rfl ?_
  refine w_mv (pc1 := 8) (st1 := []) rfl rfl rfl ?_
  refine w_mv (pc1 := 9) (st1 := [.int 1]) rfl rfl rfl ?_
  refine w_mv (pc1 := 12) (st1 := []) rfl rfl rfl ?_
  refine w_mv (pc1 := 13) (st1 := [.ref 30]) rfl rfl rfl ?_
  refine w_call (M' := sM_117) (vals := [.ref 30]) (rest := []) (lv' := [(0, .ref 30)]) rfl rfl rfl rfl rfl rfl rfl rfl rfl rfl ?_
  refine w_mv (pc1 := 1) (st1 := [.ref 30]) rfl rfl rfl ?_
  refine w_mv (pc1 := 4) (st1 := [.int 0]) rfl rfl rfl ?_
  refine w_mv (pc1 := 5) (st1 := [.ref 30, .int 0]) rfl rfl rfl ?_
  refine w_mv (pc1 := 8) (st1 := [.int 0, .int 0]) rfl rfl rfl ?_
  refine w_mv (pc1 := 23) (st1 := []) rfl rfl rfl ?_
  refine w_mv (pc1 := 24) (st1 := [.int 0]) rfl rfl rfl ?_
  refine w_iret (pc1 := 16) rfl rfl rfl rfl ?_
  refine w_mv (pc1 := 18) (lv1 := [(4, .int 0), (3, .int 1), (2, .int 1), (0, .ref 30), (1, .int 0)]) (st1 := []) rfl rfl rfl ?_
  refine w_mv (pc1 := 20) (st1 := [.int 0]) rfl rfl rfl ?_
  refine w_mv (pc1 := 22) (st1 := [.int 97, .int 0]) rfl rfl rfl ?_
  refine w_mv (pc1 := 24) (st1 := [.int 122, .int 97, .int 0]) rfl rfl rfl ?_
  refine w_call (M' := sM_111) (vals := [.int 0, .int 97, .int 122]) (rest := []) (lv' := [(0, .int 0), (1, .int 97), (2, .int 122)]) rfl rfl rfl rfl rfl rfl rfl rfl rfl rfl ?_
  refine w_mv (pc1 := 1) (st1 := [.int 0]) rfl rfl rfl ?_
  refine w_mv (pc1 := 2) (st1 := [.int 97, .int 0]) rfl rfl rfl ?_
  refine w_mv (pc1 := 14) (st1 := []) rfl rfl rfl ?_
  refine w_mv (pc1 := 15) (st1 := [.int 0]) rfl rfl rfl ?_
  refine w_iret (pc1 := 27) rfl rfl rfl rfl ?_
  refine w_mv (pc1 := 29) (lv1 := [(5, .int 0), (4, .int 0), (3, .int 1), (2, .int 1), (0, .ref 30), (1, .int 0)]) (st1 := []) rfl rfl rfl ?_
  refine w_mv (pc1 := 31) (st1 := [.int 0]) rfl rfl rfl ?_
  refine w_mv (pc1 := 34) (st1 := []) rfl rfl rfl ?_
  refine w_mv (pc1 := 35) (st1 := [.int 0]) rfl rfl rfl ?_
  refine w_mv (pc1 := 43) (st1 := []) rfl rfl rfl ?_
  refine w_mv (pc1 := 45) (st1 := [.int 0]) rfl rfl rfl ?_
  refine w_mv (pc1 := 47) (st1 := [.int 65, .int 0]) rfl rfl rfl ?_
  refine w_mv (pc1 := 49) (st1 := [.int 90, .int 65, .int 0]) rfl rfl rfl ?_
  refine w_call (M' := sM_111) (vals := [.int 0, .int 65, .int 90]) (rest := []) (lv' := [(0, .int 0), (1, .int 65), (2, .int 90)]) rfl rfl rfl rfl rfl rfl rfl rfl rfl rfl ?_
  refine w_mv (pc1 := 1) (st1 := [.int 0]) rfl rfl rfl ?_
  refine w_mv (pc1 := 2) (st1 := [.int 65, .int 0]) rfl rfl rfl ?_
  refine w_mv (pc1 := 14) (st1 := []) rfl rfl rfl ?_
  refine w_mv (pc1 := 15) (st1 := [.int 0]) rfl rfl rfl ?_
  refine w_iret (pc1 := 52) rfl rfl rfl rfl ?_
  refine w_mv (pc1 := 55) (st1 := []) rfl rfl rfl ?_
  refine w_mv (pc1 := 57) (st1 := [.int 0]) rfl rfl rfl ?_
  refine w_mv (pc1 := 59) (st1 := [.int 48, .int 0]) rfl rfl rfl ?_
  refine w_mv (pc1 := 61) (st1 := [.int 57, .int 48, .int 0]) rfl rfl rfl ?_
  refine w_call (M' := sM_111) (vals := [.int 0, .int 48, .int 57]) (rest := []) (lv' := [(0, .int 0), (1, .int 48), (2, .int 57)]) rfl rfl rfl rfl rfl rfl rfl rfl rfl rfl ?_
  refine w_mv (pc1 := 1) (st1 := [.int 0]) rfl rfl rfl ?_
  refine w_mv (pc1 := 2) (st1 := [.int 48, .int 0]) rfl rfl rfl ?_
  refine w_mv (pc1 := 14) (st1 := []) rfl rfl rfl ?_
  refine w_mv (pc1 := 15) (st1 := [.int 0]) rfl rfl rfl ?_
  refine w_iret (pc1 := 64) rfl rfl rfl rfl ?_
  refine w_mv (pc1 := 67) (st1 := []) rfl rfl rfl ?_
  refine w_mv (pc1 := 68) (st1 := [.int 0]) rfl rfl rfl ?_
  refine w_iret (pc1 := 29) rfl rfl rfl rfl ?_
  refine w_mv (pc1 := 32) (st1 := []) rfl rfl rfl ?_
  refine w_mv (pc1 := 33) (st1 := [.int 0]) rfl rfl rfl ?_
  refine w_iret (pc1 := 9) rfl rfl rfl rfl ?_
  refine w_mv (pc1 := 10) (lv1 := [(1, .int 0), (0, .ref 30)]) (st1 := []) rfl rfl rfl ?_
  refine w_mv (pc1 := 11) (st1 := [.int 0]) rfl rfl rfl ?_
  refine w_mv (pc1 := 14) (st1 := []) rfl rfl rfl ?_
  refine w_mv (pc1 := 15) (st1 := [.ref 30]) rfl rfl rfl ?_
  refine w_mv (pc1 := 16) (st1 := [.ref 30, .ref 30]) rfl rfl rfl ?_
  refine w_mv (pc1 := 19) (st1 := [.int 0, .ref 30]) rfl rfl rfl ?_
  refine w_st (pc1 := 22) (st1 := []) (hs1 := sH_133 3 xs) (dc1 := 0) (ds1 := 0) (dc2 := 62) (ds2 := 146550) rfl rfl rfl rfl rfl ?_
  refine w_mv (pc1 := 23) (st1 := [.ref 30]) rfl rfl rfl ?_
  refine w_mv (pc1 := 26) (st1 := [.int 0]) rfl rfl rfl ?_
  refine w_mv (pc1 := 27) (lv1 := [(2, .int 0), (1, .int 0), (0, .ref 30)]) (st1 := []) rfl rfl rfl ?_
  refine w_mv (pc1 := 28) (st1 := [.ref 30]) rfl rfl rfl ?_
  refine w_mv (pc1 := 29) (st1 := [.int 0, .ref 30]) rfl rfl rfl ?_
  refine w_st (pc1 := 32) (st1 := []) (hs1 := sH_133 3 xs) (dc1 := 0) (ds1 := 0) (dc2 := 62) (ds2 := 146550) rfl rfl rfl rfl rfl ?_
  refine w_mv (pc1 := 33) (st1 := [.ref 30]) rfl rfl rfl ?_
  refine w_mv (pc1 := 34) (st1 := [.int 0, .ref 30]) rfl rfl rfl ?_
  refine w_call (M' := sM_112) (vals := [.ref 30, .int 0]) (rest := []) (lv' := [(0, .ref 30), (1, .int 0)]) rfl rfl rfl rfl rfl rfl rfl rfl rfl rfl ?_
  refine w_mv (pc1 := 1) (st1 := [.ref 30]) rfl rfl rfl ?_
  refine w_mv (pc1 := 2) (st1 := [.int 0, .ref 30]) rfl rfl rfl ?_
  refine w_mv (pc1 := 9) (st1 := [.ref 30]) rfl rfl rfl ?_
  refine w_mv (pc1 := 10) (st1 := [.int 1, .ref 30]) rfl rfl rfl ?_
  refine w_st (pc1 := 13) (st1 := []) (hs1 := sH_134 3 xs) (dc1 := 0) (ds1 := 0) (dc2 := 62) (ds2 := 146550) rfl rfl rfl rfl rfl ?_
  refine w_mv (pc1 := 14) (st1 := [.int 0]) rfl rfl rfl ?_
  refine w_mv (pc1 := 17) (st1 := []) rfl rfl rfl ?_
  refine w_mv (pc1 := 18) (st1 := [.int 1]) rfl rfl rfl ?_
  refine w_mv (pc1 := 22) (st1 := [.int 1]) rfl rfl rfl ?_
  refine w_iret (pc1 := 37) rfl rfl rfl rfl ?_
  refine w_mv (pc1 := 40) (st1 := []) rfl rfl rfl ?_
  refine w_mv (pc1 := 41) (st1 := [.int 0]) rfl rfl rfl ?_
  refine w_iret (pc1 := 263) rfl rfl rfl rfl ?_
  refine w_mv (pc1 := 265) (lv1 := [(6, .int 0), (5, .int 1), (4, .int 0), (3, .ref 61), (2, .ref 30), (1, .ref 2), (0, .ref 0)]) (st1 := []) rfl rfl rfl ?_
  refine w_mv (pc1 := 266) (st1 := [.ref 30]) rfl rfl rfl ?_
  refine w_call (M' := sM_109) (vals := [.ref 30]) (rest := []) (lv' := [(0, .ref 30)]) rfl rfl rfl rfl rfl rfl rfl rfl rfl rfl ?_
  refine w_mv (pc1 := 1) (st1 := [.ref 30]) rfl rfl rfl ?_
  refine w_mv (pc1 := 4) (st1 := [.int 1]) rfl rfl rfl ?_
  refine w_iret (pc1 := 269) rfl rfl rfl rfl ?_
  refine w_mv (pc1 := 271) (st1 := [.int 1, .int 1]) rfl rfl rfl ?_
  refine w_mv (pc1 := 276) (st1 := []) rfl rfl rfl ?_
  refine w_mv (pc1 := 278) (st1 := [.int 1]) rfl rfl rfl ?_
  refine w_mv (pc1 := 293) (st1 := []) rfl rfl rfl ?_
  refine w_mv (pc1 := 501) (st1 := []) rfl rfl rfl ?_
  refine w_mv (pc1 := 504) (lv1 := [(4, .int 3), (6, .int 0), (5, .int 1), (3, .ref 61), (2, .ref 30), (1, .ref 2), (0, .ref 0)]) (st1 := []) rfl rfl rfl ?_
  refine w_mv (pc1 := 23) (st1 := []) rfl rfl rfl ?_
  refine w_mv (pc1 := 25) (st1 := [.int 3]) rfl rfl rfl ?_
  refine w_mv (pc1 := 26) (st1 := [.ref 0, .int 3]) rfl rfl rfl ?_
  refine w_mv (pc1 := 27) (st1 := [.int 3, .int 3]) rfl rfl rfl ?_
  refine w_mv (pc1 := 28) (st1 := [.int 3, .int 3, .int 3]) rfl rfl rfl ?_
  refine w_mv (pc1 := 29) (st1 := [.int 0, .int 3]) rfl rfl rfl ?_
  refine w_mv (pc1 := 507) (st1 := []) rfl rfl rfl ?_
  refine w_mv (pc1 := 508) (st1 := [.int 1]) rfl rfl rfl ?_
  exact sx_wp.stop rfl rfl rfl ⟨rfl, by decide, by decide⟩
set_option maxRecDepth 20000 in
set_option maxHeartbeats 4000000 in
theorem s_k_run (xs : Nat → Int32)  : s_wp 20 sM_law 296 [(4, .int 0), (3, .ref 61), (2, .ref 30), (1, .ref 2), (0, .ref 0)] [] (sH_121 3 xs) 60 146541 s_fin := by
  refine w_mv (pc1 := 297) (st1 := [.ref 2]) rfl rfl rfl ?_
  refine w_mv (pc1 := 298) (st1 := [.ref 0, .ref 2]) rfl rfl rfl ?_
  refine w_mv (pc1 := 300) (st1 := [.int 0, .ref 0, .ref 2]) rfl rfl rfl ?_
  refine w_mv (pc1 := 301) (st1 := [.int 1, .int 0, .ref 0, .ref 2]) rfl rfl rfl ?_
  refine w_mv (pc1 := 302) (st1 := [.int 1, .ref 0, .ref 2]) rfl rfl rfl ?_
  refine w_mv (pc1 := 303) (st1 := [.int (xs 1), .ref 2]) rfl rfl rfl ?_
  refine w_mv (pc1 := 304) (st1 := [.ref 61, .int (xs 1), .ref 2]) rfl rfl rfl ?_
  refine w_call (M' := sM_66) (vals := [.ref 2, .int (xs 1), .ref 61]) (rest := []) (lv' := [(0, .ref 2), (1, .int (xs 1)), (2, .ref 61)]) rfl rfl rfl rfl rfl rfl rfl rfl rfl rfl ?_
  refine w_mv (pc1 := 1) (st1 := [.ref 61]) rfl rfl rfl ?_
  refine w_mv (pc1 := 2) (st1 := [.int 0, .ref 61]) rfl rfl rfl ?_
  refine w_mv (pc1 := 3) (st1 := [.ref 2, .int 0, .ref 61]) rfl rfl rfl ?_
  refine w_mv (pc1 := 4) (st1 := [.int (xs 1), .ref 2, .int 0, .ref 61]) rfl rfl rfl ?_
  refine w_call (M' := sM_67) (vals := [.ref 2, .int (xs 1)]) (rest := [.int 0, .ref 61]) (lv' := [(0, .ref 2), (1, .int (xs 1))]) rfl rfl rfl rfl rfl rfl rfl rfl rfl rfl ?_
  refine w_mv (pc1 := 1) (st1 := [.int (xs 1)]) rfl rfl rfl ?_
  refine w_mv (pc1 := 2) (st1 := [.int 1, .int (xs 1)]) rfl rfl rfl ?_
  by_cases h1 : (xs 1).toInt < 1
  ·
    refine w_ilt_T (pc1 := 11) rfl rfl (show (xs 1).toInt < 1 by omega) ?_
    refine w_thr (x := 62) (h9 := 12) (hs1 := sH_127 3 xs) (dc2 := 61) (ds2 := 146547) rfl rfl rfl rfl rfl rfl rfl rfl rfl rfl rfl ?_
    refine w_mv (pc1 := 13) (lv1 := [(3, .ref 62), (0, .ref 2), (1, .int (xs 1)), (2, .ref 61)]) (st1 := []) rfl rfl rfl ?_
    refine w_mv (pc1 := 14) (st1 := [.int 1]) rfl rfl rfl ?_
    refine w_iret (pc1 := 307) rfl rfl rfl rfl ?_
    refine w_mv (pc1 := 309) (lv1 := [(5, .int 1), (4, .int 0), (3, .ref 61), (2, .ref 30), (1, .ref 2), (0, .ref 0)]) (st1 := []) rfl rfl rfl ?_
    refine w_mv (pc1 := 310) (st1 := [.ref 30]) rfl rfl rfl ?_
    refine w_mv (pc1 := 311) (st1 := [.ref 0, .ref 30]) rfl rfl rfl ?_
    refine w_mv (pc1 := 313) (st1 := [.int 0, .ref 0, .ref 30]) rfl rfl rfl ?_
    refine w_mv (pc1 := 314) (st1 := [.int 1, .int 0, .ref 0, .ref 30]) rfl rfl rfl ?_
    refine w_mv (pc1 := 315) (st1 := [.int 1, .ref 0, .ref 30]) rfl rfl rfl ?_
    refine w_mv (pc1 := 316) (st1 := [.int (xs 1), .ref 30]) rfl rfl rfl ?_
    refine w_call (M' := sM_133) (vals := [.ref 30, .int (xs 1)]) (rest := []) (lv' := [(0, .ref 30), (1, .int (xs 1))]) rfl rfl rfl rfl rfl rfl rfl rfl rfl rfl ?_
    refine w_mv (pc1 := 1) (st1 := [.ref 30]) rfl rfl rfl ?_
    refine w_mv (pc1 := 2) (st1 := [.int (xs 1), .ref 30]) rfl rfl rfl ?_
    refine w_mv (pc1 := 3) (st1 := [.int 1, .int (xs 1), .ref 30]) rfl rfl rfl ?_
    refine w_mv (pc1 := 5) (st1 := [.int 100, .int 1, .int (xs 1), .ref 30]) rfl rfl rfl ?_
    refine w_call (M' := sM_111) (vals := [.int (xs 1), .int 1, .int 100]) (rest := [.ref 30]) (lv' := [(0, .int (xs 1)), (1, .int 1), (2, .int 100)]) rfl rfl rfl rfl rfl rfl rfl rfl rfl rfl ?_
    refine w_mv (pc1 := 1) (st1 := [.int (xs 1)]) rfl rfl rfl ?_
    refine w_mv (pc1 := 2) (st1 := [.int 1, .int (xs 1)]) rfl rfl rfl ?_
    refine w_ilt_T (pc1 := 14) rfl rfl (show (xs 1).toInt < 1 by omega) ?_
    refine w_mv (pc1 := 15) (st1 := [.int 0]) rfl rfl rfl ?_
    refine w_iret (pc1 := 8) rfl rfl rfl rfl ?_
    refine w_call (M' := sM_112) (vals := [.ref 30, .int 0]) (rest := []) (lv' := [(0, .ref 30), (1, .int 0)]) rfl rfl rfl rfl rfl rfl rfl rfl rfl rfl ?_
    refine w_mv (pc1 := 1) (st1 := [.ref 30]) rfl rfl rfl ?_
    refine w_mv (pc1 := 2) (st1 := [.int 0, .ref 30]) rfl rfl rfl ?_
    refine w_mv (pc1 := 9) (st1 := [.ref 30]) rfl rfl rfl ?_
    refine w_mv (pc1 := 10) (st1 := [.int 1, .ref 30]) rfl rfl rfl ?_
    refine w_st (pc1 := 13) (st1 := []) (hs1 := sH_128 3 xs) (dc1 := 0) (ds1 := 0) (dc2 := 61) (ds2 := 146547) rfl rfl rfl rfl rfl ?_
    refine w_mv (pc1 := 14) (st1 := [.int 0]) rfl rfl rfl ?_
    refine w_mv (pc1 := 17) (st1 := []) rfl rfl rfl ?_
    refine w_mv (pc1 := 18) (st1 := [.int 1]) rfl rfl rfl ?_
    refine w_mv (pc1 := 22) (st1 := [.int 1]) rfl rfl rfl ?_
    refine w_iret (pc1 := 11) rfl rfl rfl rfl ?_
    refine w_mv (pc1 := 14) (st1 := []) rfl rfl rfl ?_
    refine w_mv (pc1 := 15) (st1 := [.int 0]) rfl rfl rfl ?_
    refine w_iret (pc1 := 319) rfl rfl rfl rfl ?_
    refine w_mv (pc1 := 321) (lv1 := [(6, .int 0), (5, .int 1), (4, .int 0), (3, .ref 61), (2, .ref 30), (1, .ref 2), (0, .ref 0)]) (st1 := []) rfl rfl rfl ?_
    refine w_mv (pc1 := 322) (st1 := [.ref 30]) rfl rfl rfl ?_
    refine w_call (M' := sM_109) (vals := [.ref 30]) (rest := []) (lv' := [(0, .ref 30)]) rfl rfl rfl rfl rfl rfl rfl rfl rfl rfl ?_
    refine w_mv (pc1 := 1) (st1 := [.ref 30]) rfl rfl rfl ?_
    refine w_mv (pc1 := 4) (st1 := [.int 1]) rfl rfl rfl ?_
    refine w_iret (pc1 := 325) rfl rfl rfl rfl ?_
    refine w_mv (pc1 := 327) (st1 := [.int 1, .int 1]) rfl rfl rfl ?_
    refine w_mv (pc1 := 332) (st1 := []) rfl rfl rfl ?_
    refine w_mv (pc1 := 334) (st1 := [.int 1]) rfl rfl rfl ?_
    refine w_mv (pc1 := 349) (st1 := []) rfl rfl rfl ?_
    refine w_mv (pc1 := 501) (st1 := []) rfl rfl rfl ?_
    refine w_mv (pc1 := 504) (lv1 := [(4, .int 3), (6, .int 0), (5, .int 1), (3, .ref 61), (2, .ref 30), (1, .ref 2), (0, .ref 0)]) (st1 := []) rfl rfl rfl ?_
    refine w_mv (pc1 := 23) (st1 := []) rfl rfl rfl ?_
    refine w_mv (pc1 := 25) (st1 := [.int 3]) rfl rfl rfl ?_
    refine w_mv (pc1 := 26) (st1 := [.ref 0, .int 3]) rfl rfl rfl ?_
    refine w_mv (pc1 := 27) (st1 := [.int 3, .int 3]) rfl rfl rfl ?_
    refine w_mv (pc1 := 28) (st1 := [.int 3, .int 3, .int 3]) rfl rfl rfl ?_
    refine w_mv (pc1 := 29) (st1 := [.int 0, .int 3]) rfl rfl rfl ?_
    refine w_mv (pc1 := 507) (st1 := []) rfl rfl rfl ?_
    refine w_mv (pc1 := 508) (st1 := [.int 1]) rfl rfl rfl ?_
    exact sx_wp.stop rfl rfl rfl ⟨rfl, by decide, by decide⟩
  ·
    refine w_ilt_F (pc1 := 5) rfl (by decide) rfl (show 1 ≤ (xs 1).toInt by omega) ?_
    refine w_mv (pc1 := 6) (st1 := [.int (xs 1)]) rfl rfl rfl ?_
    refine w_mv (pc1 := 8) (st1 := [.int 100, .int (xs 1)]) rfl rfl rfl ?_
    by_cases h2 : (xs 1).toInt ≤ 100
    ·
      refine w_ile_T (pc1 := 19) rfl rfl (show (xs 1).toInt ≤ 100 by omega) ?_
      refine w_mv (pc1 := 20) (st1 := [.ref 2]) rfl rfl rfl ?_
      refine w_mv (pc1 := 23) (st1 := [.ref 6]) rfl rfl rfl ?_
      refine w_call (M' := sM_16) (vals := [.ref 6]) (rest := []) (lv' := [(0, .ref 6)]) rfl rfl rfl rfl rfl rfl rfl rfl rfl rfl ?_
      refine w_mv (pc1 := 1) (st1 := [.ref 6]) rfl rfl rfl ?_
      refine w_mv (pc1 := 4) (st1 := [.int 0]) rfl rfl rfl ?_
      refine w_iret (pc1 := 26) rfl rfl rfl rfl ?_
      refine w_mv (pc1 := 27) (st1 := [.int 1, .int 0]) rfl rfl rfl ?_
      refine w_mv (pc1 := 30) (st1 := []) rfl rfl rfl ?_
      refine w_thr (x := 62) (h9 := 15) (hs1 := sH_135 3 xs) (dc2 := 61) (ds2 := 146547) rfl rfl rfl rfl rfl rfl rfl rfl rfl rfl rfl ?_
      refine w_mv (pc1 := 16) (lv1 := [(3, .ref 62), (0, .ref 2), (1, .int (xs 1)), (2, .ref 61)]) (st1 := []) rfl rfl rfl ?_
      refine w_mv (pc1 := 17) (st1 := [.int 2]) rfl rfl rfl ?_
      refine w_iret (pc1 := 307) rfl rfl rfl rfl ?_
      refine w_mv (pc1 := 309) (lv1 := [(5, .int 2), (4, .int 0), (3, .ref 61), (2, .ref 30), (1, .ref 2), (0, .ref 0)]) (st1 := []) rfl rfl rfl ?_
      refine w_mv (pc1 := 310) (st1 := [.ref 30]) rfl rfl rfl ?_
      refine w_mv (pc1 := 311) (st1 := [.ref 0, .ref 30]) rfl rfl rfl ?_
      refine w_mv (pc1 := 313) (st1 := [.int 0, .ref 0, .ref 30]) rfl rfl rfl ?_
      refine w_mv (pc1 := 314) (st1 := [.int 1, .int 0, .ref 0, .ref 30]) rfl rfl rfl ?_
      refine w_mv (pc1 := 315) (st1 := [.int 1, .ref 0, .ref 30]) rfl rfl rfl ?_
      refine w_mv (pc1 := 316) (st1 := [.int (xs 1), .ref 30]) rfl rfl rfl ?_
      refine w_call (M' := sM_133) (vals := [.ref 30, .int (xs 1)]) (rest := []) (lv' := [(0, .ref 30), (1, .int (xs 1))]) rfl rfl rfl rfl rfl rfl rfl rfl rfl rfl ?_
      refine w_mv (pc1 := 1) (st1 := [.ref 30]) rfl rfl rfl ?_
      refine w_mv (pc1 := 2) (st1 := [.int (xs 1), .ref 30]) rfl rfl rfl ?_
      refine w_mv (pc1 := 3) (st1 := [.int 1, .int (xs 1), .ref 30]) rfl rfl rfl ?_
      refine w_mv (pc1 := 5) (st1 := [.int 100, .int 1, .int (xs 1), .ref 30]) rfl rfl rfl ?_
      refine w_call (M' := sM_111) (vals := [.int (xs 1), .int 1, .int 100]) (rest := [.ref 30]) (lv' := [(0, .int (xs 1)), (1, .int 1), (2, .int 100)]) rfl rfl rfl rfl rfl rfl rfl rfl rfl rfl ?_
      refine w_mv (pc1 := 1) (st1 := [.int (xs 1)]) rfl rfl rfl ?_
      refine w_mv (pc1 := 2) (st1 := [.int 1, .int (xs 1)]) rfl rfl rfl ?_
      refine w_ilt_F (pc1 := 5) rfl (by decide) rfl (show 1 ≤ (xs 1).toInt by omega) ?_
      refine w_mv (pc1 := 6) (st1 := [.int (xs 1)]) rfl rfl rfl ?_
      refine w_mv (pc1 := 7) (st1 := [.int 100, .int (xs 1)]) rfl rfl rfl ?_
      refine w_igt_F (pc1 := 10) rfl (by decide) rfl (show (xs 1).toInt ≤ 100 by omega) ?_
      refine w_mv (pc1 := 11) (st1 := [.int 1]) rfl rfl rfl ?_
      refine w_mv (pc1 := 15) (st1 := [.int 1]) rfl rfl rfl ?_
      refine w_iret (pc1 := 8) rfl rfl rfl rfl ?_
      refine w_call (M' := sM_112) (vals := [.ref 30, .int 1]) (rest := []) (lv' := [(0, .ref 30), (1, .int 1)]) rfl rfl rfl rfl rfl rfl rfl rfl rfl rfl ?_
      refine w_mv (pc1 := 1) (st1 := [.ref 30]) rfl rfl rfl ?_
      refine w_mv (pc1 := 2) (st1 := [.int 1, .ref 30]) rfl rfl rfl ?_
      refine w_mv (pc1 := 5) (st1 := [.ref 30]) rfl rfl rfl ?_
      refine w_mv (pc1 := 6) (st1 := [.int 0, .ref 30]) rfl rfl rfl ?_
      refine w_mv (pc1 := 10) (st1 := [.int 0, .ref 30]) rfl rfl rfl ?_
      refine w_st (pc1 := 13) (st1 := []) (hs1 := sH_135 3 xs) (dc1 := 0) (ds1 := 0) (dc2 := 61) (ds2 := 146547) rfl rfl rfl rfl rfl ?_
      refine w_mv (pc1 := 14) (st1 := [.int 1]) rfl rfl rfl ?_
      refine w_mv (pc1 := 21) (st1 := []) rfl rfl rfl ?_
      refine w_mv (pc1 := 22) (st1 := [.int 0]) rfl rfl rfl ?_
      refine w_iret (pc1 := 11) rfl rfl rfl rfl ?_
      refine w_mv (pc1 := 16) (st1 := []) rfl rfl rfl ?_
      refine w_mv (pc1 := 17) (st1 := [.ref 30]) rfl rfl rfl ?_
      refine w_mv (pc1 := 20) (st1 := [.int 0]) rfl rfl rfl ?_
      refine w_mv (pc1 := 21) (st1 := [.int 1, .int 0]) rfl rfl rfl ?_
      refine w_mv (pc1 := 24) (st1 := []) rfl rfl rfl ?_
      refine w_mv (pc1 := 25) (st1 := [.ref 30]) rfl rfl rfl ?_
      refine w_mv (pc1 := 26) (st1 := [.int 2, .ref 30]) rfl rfl rfl ?_
      refine w_call (M' := sM_113) (vals := [.ref 30, .int 2]) (rest := []) (lv' := [(0, .ref 30), (1, .int 2)]) rfl rfl rfl rfl rfl rfl rfl rfl rfl rfl ?_
      refine w_mv (pc1 := 1) (st1 := [.ref 30]) rfl rfl rfl ?_
      refine w_mv (pc1 := 2) (st1 := [.int 2, .ref 30]) rfl rfl rfl ?_
      refine w_st (pc1 := 5) (st1 := []) (hs1 := sH_136 3 xs) (dc1 := 0) (ds1 := 0) (dc2 := 61) (ds2 := 146547) rfl rfl rfl rfl rfl ?_
      refine w_mv (pc1 := 6) (st1 := [.int 0]) rfl rfl rfl ?_
      refine w_iret (pc1 := 29) rfl rfl rfl rfl ?_
      refine w_iret (pc1 := 319) rfl rfl rfl rfl ?_
      refine w_mv (pc1 := 321) (lv1 := [(6, .int 0), (5, .int 2), (4, .int 0), (3, .ref 61), (2, .ref 30), (1, .ref 2), (0, .ref 0)]) (st1 := []) rfl rfl rfl ?_
      refine w_mv (pc1 := 322) (st1 := [.ref 30]) rfl rfl rfl ?_
      refine w_call (M' := sM_109) (vals := [.ref 30]) (rest := []) (lv' := [(0, .ref 30)]) rfl rfl rfl rfl rfl rfl rfl rfl rfl rfl ?_
      refine w_mv (pc1 := 1) (st1 := [.ref 30]) rfl rfl rfl ?_
      refine w_mv (pc1 := 4) (st1 := [.int 2]) rfl rfl rfl ?_
      refine w_iret (pc1 := 325) rfl rfl rfl rfl ?_
      refine w_mv (pc1 := 327) (st1 := [.int 2, .int 2]) rfl rfl rfl ?_
      refine w_mv (pc1 := 332) (st1 := []) rfl rfl rfl ?_
      refine w_mv (pc1 := 334) (st1 := [.int 2]) rfl rfl rfl ?_
      refine w_mv (pc1 := 349) (st1 := []) rfl rfl rfl ?_
      refine w_mv (pc1 := 501) (st1 := []) rfl rfl rfl ?_
      refine w_mv (pc1 := 504) (lv1 := [(4, .int 3), (6, .int 0), (5, .int 2), (3, .ref 61), (2, .ref 30), (1, .ref 2), (0, .ref 0)]) (st1 := []) rfl rfl rfl ?_
      refine w_mv (pc1 := 23) (st1 := []) rfl rfl rfl ?_
      refine w_mv (pc1 := 25) (st1 := [.int 3]) rfl rfl rfl ?_
      refine w_mv (pc1 := 26) (st1 := [.ref 0, .int 3]) rfl rfl rfl ?_
      refine w_mv (pc1 := 27) (st1 := [.int 3, .int 3]) rfl rfl rfl ?_
      refine w_mv (pc1 := 28) (st1 := [.int 3, .int 3, .int 3]) rfl rfl rfl ?_
      refine w_mv (pc1 := 29) (st1 := [.int 0, .int 3]) rfl rfl rfl ?_
      refine w_mv (pc1 := 507) (st1 := []) rfl rfl rfl ?_
      refine w_mv (pc1 := 508) (st1 := [.int 1]) rfl rfl rfl ?_
      exact sx_wp.stop rfl rfl rfl ⟨rfl, by decide, by decide⟩
    ·
      refine w_ile_F (pc1 := 11) rfl (by decide) rfl (show 100 < (xs 1).toInt by omega) ?_
      refine w_thr (x := 62) (h9 := 12) (hs1 := sH_127 3 xs) (dc2 := 61) (ds2 := 146547) rfl rfl rfl rfl rfl rfl rfl rfl rfl rfl rfl ?_
      refine w_mv (pc1 := 13) (lv1 := [(3, .ref 62), (0, .ref 2), (1, .int (xs 1)), (2, .ref 61)]) (st1 := []) rfl rfl rfl ?_
      refine w_mv (pc1 := 14) (st1 := [.int 1]) rfl rfl rfl ?_
      refine w_iret (pc1 := 307) rfl rfl rfl rfl ?_
      refine w_mv (pc1 := 309) (lv1 := [(5, .int 1), (4, .int 0), (3, .ref 61), (2, .ref 30), (1, .ref 2), (0, .ref 0)]) (st1 := []) rfl rfl rfl ?_
      refine w_mv (pc1 := 310) (st1 := [.ref 30]) rfl rfl rfl ?_
      refine w_mv (pc1 := 311) (st1 := [.ref 0, .ref 30]) rfl rfl rfl ?_
      refine w_mv (pc1 := 313) (st1 := [.int 0, .ref 0, .ref 30]) rfl rfl rfl ?_
      refine w_mv (pc1 := 314) (st1 := [.int 1, .int 0, .ref 0, .ref 30]) rfl rfl rfl ?_
      refine w_mv (pc1 := 315) (st1 := [.int 1, .ref 0, .ref 30]) rfl rfl rfl ?_
      refine w_mv (pc1 := 316) (st1 := [.int (xs 1), .ref 30]) rfl rfl rfl ?_
      refine w_call (M' := sM_133) (vals := [.ref 30, .int (xs 1)]) (rest := []) (lv' := [(0, .ref 30), (1, .int (xs 1))]) rfl rfl rfl rfl rfl rfl rfl rfl rfl rfl ?_
      refine w_mv (pc1 := 1) (st1 := [.ref 30]) rfl rfl rfl ?_
      refine w_mv (pc1 := 2) (st1 := [.int (xs 1), .ref 30]) rfl rfl rfl ?_
      refine w_mv (pc1 := 3) (st1 := [.int 1, .int (xs 1), .ref 30]) rfl rfl rfl ?_
      refine w_mv (pc1 := 5) (st1 := [.int 100, .int 1, .int (xs 1), .ref 30]) rfl rfl rfl ?_
      refine w_call (M' := sM_111) (vals := [.int (xs 1), .int 1, .int 100]) (rest := [.ref 30]) (lv' := [(0, .int (xs 1)), (1, .int 1), (2, .int 100)]) rfl rfl rfl rfl rfl rfl rfl rfl rfl rfl ?_
      refine w_mv (pc1 := 1) (st1 := [.int (xs 1)]) rfl rfl rfl ?_
      refine w_mv (pc1 := 2) (st1 := [.int 1, .int (xs 1)]) rfl rfl rfl ?_
      refine w_ilt_F (pc1 := 5) rfl (by decide) rfl (show 1 ≤ (xs 1).toInt by omega) ?_
      refine w_mv (pc1 := 6) (st1 := [.int (xs 1)]) rfl rfl rfl ?_
      refine w_mv (pc1 := 7) (st1 := [.int 100, .int (xs 1)]) rfl rfl rfl ?_
      refine w_igt_T (pc1 := 14) rfl rfl (show 100 < (xs 1).toInt by omega) ?_
      refine w_mv (pc1 := 15) (st1 := [.int 0]) rfl rfl rfl ?_
      refine w_iret (pc1 := 8) rfl rfl rfl rfl ?_
      refine w_call (M' := sM_112) (vals := [.ref 30, .int 0]) (rest := []) (lv' := [(0, .ref 30), (1, .int 0)]) rfl rfl rfl rfl rfl rfl rfl rfl rfl rfl ?_
      refine w_mv (pc1 := 1) (st1 := [.ref 30]) rfl rfl rfl ?_
      refine w_mv (pc1 := 2) (st1 := [.int 0, .ref 30]) rfl rfl rfl ?_
      refine w_mv (pc1 := 9) (st1 := [.ref 30]) rfl rfl rfl ?_
      refine w_mv (pc1 := 10) (st1 := [.int 1, .ref 30]) rfl rfl rfl ?_
      refine w_st (pc1 := 13) (st1 := []) (hs1 := sH_128 3 xs) (dc1 := 0) (ds1 := 0) (dc2 := 61) (ds2 := 146547) rfl rfl rfl rfl rfl ?_
      refine w_mv (pc1 := 14) (st1 := [.int 0]) rfl rfl rfl ?_
      refine w_mv (pc1 := 17) (st1 := []) rfl rfl rfl ?_
      refine w_mv (pc1 := 18) (st1 := [.int 1]) rfl rfl rfl ?_
      refine w_mv (pc1 := 22) (st1 := [.int 1]) rfl rfl rfl ?_
      refine w_iret (pc1 := 11) rfl rfl rfl rfl ?_
      refine w_mv (pc1 := 14) (st1 := []) rfl rfl rfl ?_
      refine w_mv (pc1 := 15) (st1 := [.int 0]) rfl rfl rfl ?_
      refine w_iret (pc1 := 319) rfl rfl rfl rfl ?_
      refine w_mv (pc1 := 321) (lv1 := [(6, .int 0), (5, .int 1), (4, .int 0), (3, .ref 61), (2, .ref 30), (1, .ref 2), (0, .ref 0)]) (st1 := []) rfl rfl rfl ?_
      refine w_mv (pc1 := 322) (st1 := [.ref 30]) rfl rfl rfl ?_
      refine w_call (M' := sM_109) (vals := [.ref 30]) (rest := []) (lv' := [(0, .ref 30)]) rfl rfl rfl rfl rfl rfl rfl rfl rfl rfl ?_
      refine w_mv (pc1 := 1) (st1 := [.ref 30]) rfl rfl rfl ?_
      refine w_mv (pc1 := 4) (st1 := [.int 1]) rfl rfl rfl ?_
      refine w_iret (pc1 := 325) rfl rfl rfl rfl ?_
      refine w_mv (pc1 := 327) (st1 := [.int 1, .int 1]) rfl rfl rfl ?_
      refine w_mv (pc1 := 332) (st1 := []) rfl rfl rfl ?_
      refine w_mv (pc1 := 334) (st1 := [.int 1]) rfl rfl rfl ?_
      refine w_mv (pc1 := 349) (st1 := []) rfl rfl rfl ?_
      refine w_mv (pc1 := 501) (st1 := []) rfl rfl rfl ?_
      refine w_mv (pc1 := 504) (lv1 := [(4, .int 3), (6, .int 0), (5, .int 1), (3, .ref 61), (2, .ref 30), (1, .ref 2), (0, .ref 0)]) (st1 := []) rfl rfl rfl ?_
      refine w_mv (pc1 := 23) (st1 := []) rfl rfl rfl ?_
      refine w_mv (pc1 := 25) (st1 := [.int 3]) rfl rfl rfl ?_
      refine w_mv (pc1 := 26) (st1 := [.ref 0, .int 3]) rfl rfl rfl ?_
      refine w_mv (pc1 := 27) (st1 := [.int 3, .int 3]) rfl rfl rfl ?_
      refine w_mv (pc1 := 28) (st1 := [.int 3, .int 3, .int 3]) rfl rfl rfl ?_
      refine w_mv (pc1 := 29) (st1 := [.int 0, .int 3]) rfl rfl rfl ?_
      refine w_mv (pc1 := 507) (st1 := []) rfl rfl rfl ?_
      refine w_mv (pc1 := 508) (st1 := [.int 1]) rfl rfl rfl ?_
      exact sx_wp.stop rfl rfl rfl ⟨rfl, by decide, by decide⟩
set_option maxRecDepth 20000 in
set_option maxHeartbeats 4000000 in
theorem s_k_letter (xs : Nat → Int32)  : s_wp 20 sM_law 352 [(4, .int 0), (3, .ref 61), (2, .ref 30), (1, .ref 2), (0, .ref 0)] [] (sH_121 3 xs) 60 146541 s_fin := by
  refine w_mv (pc1 := 353) (st1 := [.ref 2]) rfl rfl rfl ?_
  refine w_mv (pc1 := 354) (st1 := [.ref 0, .ref 2]) rfl rfl rfl ?_
  refine w_mv (pc1 := 356) (st1 := [.int 0, .ref 0, .ref 2]) rfl rfl rfl ?_
  refine w_mv (pc1 := 357) (st1 := [.int 1, .int 0, .ref 0, .ref 2]) rfl rfl rfl ?_
  refine w_mv (pc1 := 358) (st1 := [.int 1, .ref 0, .ref 2]) rfl rfl rfl ?_
  refine w_mv (pc1 := 359) (st1 := [.int (xs 1), .ref 2]) rfl rfl rfl ?_
  refine w_mv (pc1 := 360) (st1 := [.ref 0, .int (xs 1), .ref 2]) rfl rfl rfl ?_
  refine w_mv (pc1 := 362) (st1 := [.int 0, .ref 0, .int (xs 1), .ref 2]) rfl rfl rfl ?_
  refine w_mv (pc1 := 363) (st1 := [.int 2, .int 0, .ref 0, .int (xs 1), .ref 2]) rfl rfl rfl ?_
  refine w_mv (pc1 := 364) (st1 := [.int 2, .ref 0, .int (xs 1), .ref 2]) rfl rfl rfl ?_
  refine w_mv (pc1 := 365) (st1 := [.int (xs 2), .int (xs 1), .ref 2]) rfl rfl rfl ?_
  refine w_mv (pc1 := 366) (st1 := [.ref 61, .int (xs 2), .int (xs 1), .ref 2]) rfl rfl rfl ?_
  refine w_call (M' := sM_101) (vals := [.ref 2, .int (xs 1), .int (xs 2), .ref 61]) (rest := []) (lv' := [(0, .ref 2), (1, .int (xs 1)), (2, .int (xs 2)), (3, .ref 61)]) rfl rfl rfl rfl rfl rfl rfl rfl rfl rfl ?_
  refine w_mv (pc1 := 1) (st1 := [.ref 61]) rfl rfl rfl ?_
  refine w_mv (pc1 := 2) (st1 := [.int 0, .ref 61]) rfl rfl rfl ?_
  refine w_mv (pc1 := 3) (st1 := [.ref 2, .int 0, .ref 61]) rfl rfl rfl ?_
  refine w_mv (pc1 := 4) (st1 := [.int (xs 1), .ref 2, .int 0, .ref 61]) rfl rfl rfl ?_
  refine w_mv (pc1 := 5) (st1 := [.int (xs 2), .int (xs 1), .ref 2, .int 0, .ref 61]) rfl rfl rfl ?_
  refine w_call (M' := sM_102) (vals := [.ref 2, .int (xs 1), .int (xs 2)]) (rest := [.int 0, .ref 61]) (lv' := [(0, .ref 2), (1, .int (xs 1)), (2, .int (xs 2))]) rfl rfl rfl rfl rfl rfl rfl rfl rfl rfl ?_
  refine w_mv (pc1 := 1) (st1 := [.int (xs 1)]) rfl rfl rfl ?_
  by_cases h1 : (xs 1).toInt < 0
  ·
    refine w_zlt_T (pc1 := 10) rfl rfl (show (xs 1).toInt < 0 by omega) ?_
    refine w_thr (x := 62) (h9 := 13) (hs1 := sH_127 3 xs) (dc2 := 61) (ds2 := 146547) rfl rfl rfl rfl rfl rfl rfl rfl rfl rfl rfl ?_
    refine w_mv (pc1 := 15) (lv1 := [(4, .ref 62), (0, .ref 2), (1, .int (xs 1)), (2, .int (xs 2)), (3, .ref 61)]) (st1 := []) rfl rfl rfl ?_
    refine w_mv (pc1 := 16) (st1 := [.int 1]) rfl rfl rfl ?_
    refine w_iret (pc1 := 369) rfl rfl rfl rfl ?_
    refine w_mv (pc1 := 371) (lv1 := [(5, .int 1), (4, .int 0), (3, .ref 61), (2, .ref 30), (1, .ref 2), (0, .ref 0)]) (st1 := []) rfl rfl rfl ?_
    refine w_mv (pc1 := 372) (st1 := [.ref 30]) rfl rfl rfl ?_
    refine w_mv (pc1 := 373) (st1 := [.ref 0, .ref 30]) rfl rfl rfl ?_
    refine w_mv (pc1 := 375) (st1 := [.int 0, .ref 0, .ref 30]) rfl rfl rfl ?_
    refine w_mv (pc1 := 376) (st1 := [.int 1, .int 0, .ref 0, .ref 30]) rfl rfl rfl ?_
    refine w_mv (pc1 := 377) (st1 := [.int 1, .ref 0, .ref 30]) rfl rfl rfl ?_
    refine w_mv (pc1 := 378) (st1 := [.int (xs 1), .ref 30]) rfl rfl rfl ?_
    refine w_mv (pc1 := 379) (st1 := [.ref 0, .int (xs 1), .ref 30]) rfl rfl rfl ?_
    refine w_mv (pc1 := 381) (st1 := [.int 0, .ref 0, .int (xs 1), .ref 30]) rfl rfl rfl ?_
    refine w_mv (pc1 := 382) (st1 := [.int 2, .int 0, .ref 0, .int (xs 1), .ref 30]) rfl rfl rfl ?_
    refine w_mv (pc1 := 383) (st1 := [.int 2, .ref 0, .int (xs 1), .ref 30]) rfl rfl rfl ?_
    refine w_mv (pc1 := 384) (st1 := [.int (xs 2), .int (xs 1), .ref 30]) rfl rfl rfl ?_
    refine w_call (M' := sM_154) (vals := [.ref 30, .int (xs 1), .int (xs 2)]) (rest := []) (lv' := [(0, .ref 30), (1, .int (xs 1)), (2, .int (xs 2))]) rfl rfl rfl rfl rfl rfl rfl rfl rfl rfl ?_
    refine w_mv (pc1 := 1) (st1 := [.ref 30]) rfl rfl rfl ?_
    refine w_mv (pc1 := 2) (st1 := [.int (xs 1), .ref 30]) rfl rfl rfl ?_
    refine w_mv (pc1 := 3) (st1 := [.int 0, .int (xs 1), .ref 30]) rfl rfl rfl ?_
    refine w_mv (pc1 := 5) (st1 := [.int 25, .int 0, .int (xs 1), .ref 30]) rfl rfl rfl ?_
    refine w_call (M' := sM_111) (vals := [.int (xs 1), .int 0, .int 25]) (rest := [.ref 30]) (lv' := [(0, .int (xs 1)), (1, .int 0), (2, .int 25)]) rfl rfl rfl rfl rfl rfl rfl rfl rfl rfl ?_
    refine w_mv (pc1 := 1) (st1 := [.int (xs 1)]) rfl rfl rfl ?_
    refine w_mv (pc1 := 2) (st1 := [.int 0, .int (xs 1)]) rfl rfl rfl ?_
    refine w_ilt_T (pc1 := 14) rfl rfl (show (xs 1).toInt < 0 by omega) ?_
    refine w_mv (pc1 := 15) (st1 := [.int 0]) rfl rfl rfl ?_
    refine w_iret (pc1 := 8) rfl rfl rfl rfl ?_
    refine w_call (M' := sM_112) (vals := [.ref 30, .int 0]) (rest := []) (lv' := [(0, .ref 30), (1, .int 0)]) rfl rfl rfl rfl rfl rfl rfl rfl rfl rfl ?_
    refine w_mv (pc1 := 1) (st1 := [.ref 30]) rfl rfl rfl ?_
    refine w_mv (pc1 := 2) (st1 := [.int 0, .ref 30]) rfl rfl rfl ?_
    refine w_mv (pc1 := 9) (st1 := [.ref 30]) rfl rfl rfl ?_
    refine w_mv (pc1 := 10) (st1 := [.int 1, .ref 30]) rfl rfl rfl ?_
    refine w_st (pc1 := 13) (st1 := []) (hs1 := sH_128 3 xs) (dc1 := 0) (ds1 := 0) (dc2 := 61) (ds2 := 146547) rfl rfl rfl rfl rfl ?_
    refine w_mv (pc1 := 14) (st1 := [.int 0]) rfl rfl rfl ?_
    refine w_mv (pc1 := 17) (st1 := []) rfl rfl rfl ?_
    refine w_mv (pc1 := 18) (st1 := [.int 1]) rfl rfl rfl ?_
    refine w_mv (pc1 := 22) (st1 := [.int 1]) rfl rfl rfl ?_
    refine w_iret (pc1 := 11) rfl rfl rfl rfl ?_
    refine w_mv (pc1 := 14) (st1 := []) rfl rfl rfl ?_
    refine w_mv (pc1 := 15) (st1 := [.int 0]) rfl rfl rfl ?_
    refine w_iret (pc1 := 387) rfl rfl rfl rfl ?_
    refine w_mv (pc1 := 389) (lv1 := [(6, .int 0), (5, .int 1), (4, .int 0), (3, .ref 61), (2, .ref 30), (1, .ref 2), (0, .ref 0)]) (st1 := []) rfl rfl rfl ?_
    refine w_mv (pc1 := 390) (st1 := [.ref 30]) rfl rfl rfl ?_
    refine w_call (M' := sM_109) (vals := [.ref 30]) (rest := []) (lv' := [(0, .ref 30)]) rfl rfl rfl rfl rfl rfl rfl rfl rfl rfl ?_
    refine w_mv (pc1 := 1) (st1 := [.ref 30]) rfl rfl rfl ?_
    refine w_mv (pc1 := 4) (st1 := [.int 1]) rfl rfl rfl ?_
    refine w_iret (pc1 := 393) rfl rfl rfl rfl ?_
    refine w_mv (pc1 := 395) (st1 := [.int 1, .int 1]) rfl rfl rfl ?_
    refine w_mv (pc1 := 400) (st1 := []) rfl rfl rfl ?_
    refine w_mv (pc1 := 402) (st1 := [.int 1]) rfl rfl rfl ?_
    refine w_mv (pc1 := 417) (st1 := []) rfl rfl rfl ?_
    refine w_mv (pc1 := 501) (st1 := []) rfl rfl rfl ?_
    refine w_mv (pc1 := 504) (lv1 := [(4, .int 3), (6, .int 0), (5, .int 1), (3, .ref 61), (2, .ref 30), (1, .ref 2), (0, .ref 0)]) (st1 := []) rfl rfl rfl ?_
    refine w_mv (pc1 := 23) (st1 := []) rfl rfl rfl ?_
    refine w_mv (pc1 := 25) (st1 := [.int 3]) rfl rfl rfl ?_
    refine w_mv (pc1 := 26) (st1 := [.ref 0, .int 3]) rfl rfl rfl ?_
    refine w_mv (pc1 := 27) (st1 := [.int 3, .int 3]) rfl rfl rfl ?_
    refine w_mv (pc1 := 28) (st1 := [.int 3, .int 3, .int 3]) rfl rfl rfl ?_
    refine w_mv (pc1 := 29) (st1 := [.int 0, .int 3]) rfl rfl rfl ?_
    refine w_mv (pc1 := 507) (st1 := []) rfl rfl rfl ?_
    refine w_mv (pc1 := 508) (st1 := [.int 1]) rfl rfl rfl ?_
    exact sx_wp.stop rfl rfl rfl ⟨rfl, by decide, by decide⟩
  ·
    refine w_zlt_F (pc1 := 4) rfl (by decide) rfl (show 0 ≤ (xs 1).toInt by omega) ?_
    refine w_mv (pc1 := 5) (st1 := [.int (xs 1)]) rfl rfl rfl ?_
    refine w_mv (pc1 := 7) (st1 := [.int 26, .int (xs 1)]) rfl rfl rfl ?_
    by_cases h2 : (xs 1).toInt < 26
    ·
      refine w_ilt_T (pc1 := 18) rfl rfl (show (xs 1).toInt < 26 by omega) ?_
      refine w_mv (pc1 := 19) (st1 := [.ref 2]) rfl rfl rfl ?_
      refine w_mv (pc1 := 22) (st1 := [.ref 6]) rfl rfl rfl ?_
      refine w_mv (pc1 := 23) (st1 := [.int (xs 1), .ref 6]) rfl rfl rfl ?_
      refine w_call (M' := sM_103) (vals := [.ref 6, .int (xs 1)]) (rest := []) (lv' := [(0, .ref 6), (1, .int (xs 1))]) rfl rfl rfl rfl rfl rfl rfl rfl rfl rfl ?_
      refine w_mv (pc1 := 1) (st1 := [.int (xs 1)]) rfl rfl rfl ?_
      refine w_zlt_F (pc1 := 4) rfl (by decide) rfl (show 0 ≤ (xs 1).toInt by omega) ?_
      refine w_mv (pc1 := 5) (st1 := [.int (xs 1)]) rfl rfl rfl ?_
      refine w_mv (pc1 := 7) (st1 := [.int 26, .int (xs 1)]) rfl rfl rfl ?_
      refine w_ige_F (pc1 := 10) rfl (by decide) rfl (show (xs 1).toInt < 26 by omega) ?_
      refine w_mv (pc1 := 11) (st1 := [.ref 6]) rfl rfl rfl ?_
      refine w_mv (pc1 := 14) (st1 := [.ref 19]) rfl rfl rfl ?_
      refine w_mv (pc1 := 15) (st1 := [.int (xs 1), .ref 19]) rfl rfl rfl ?_
      refine w_ald (x := 19) (t := 6) (A := (26, .inr (.inr (.inr (.inr (fun _ => none)))))) (v := .null) (pc1 := 16) rfl rfl rfl rfl rfl (show 0 ≤ (xs 1).toInt by omega) (show (xs 1).toInt < 26 by omega) rfl rfl ?_
      refine w_mv (pc1 := 20) (st1 := [.null]) rfl rfl rfl ?_
      refine w_nret (pc1 := 26) rfl rfl rfl rfl ?_
      refine w_mv (pc1 := 27) (lv1 := [(3, .null), (0, .ref 2), (1, .int (xs 1)), (2, .int (xs 2))]) (st1 := []) rfl rfl rfl ?_
      refine w_mv (pc1 := 28) (st1 := [.null]) rfl rfl rfl ?_
      refine w_mv (pc1 := 31) (st1 := []) rfl rfl rfl ?_
      refine w_thr (x := 62) (h9 := 17) (hs1 := sH_137 3 xs) (dc2 := 61) (ds2 := 146547) rfl rfl rfl rfl rfl rfl rfl rfl rfl rfl rfl ?_
      refine w_mv (pc1 := 19) (lv1 := [(4, .ref 62), (0, .ref 2), (1, .int (xs 1)), (2, .int (xs 2)), (3, .ref 61)]) (st1 := []) rfl rfl rfl ?_
      refine w_mv (pc1 := 20) (st1 := [.int 2]) rfl rfl rfl ?_
      refine w_iret (pc1 := 369) rfl rfl rfl rfl ?_
      refine w_mv (pc1 := 371) (lv1 := [(5, .int 2), (4, .int 0), (3, .ref 61), (2, .ref 30), (1, .ref 2), (0, .ref 0)]) (st1 := []) rfl rfl rfl ?_
      refine w_mv (pc1 := 372) (st1 := [.ref 30]) rfl rfl rfl ?_
      refine w_mv (pc1 := 373) (st1 := [.ref 0, .ref 30]) rfl rfl rfl ?_
      refine w_mv (pc1 := 375) (st1 := [.int 0, .ref 0, .ref 30]) rfl rfl rfl ?_
      refine w_mv (pc1 := 376) (st1 := [.int 1, .int 0, .ref 0, .ref 30]) rfl rfl rfl ?_
      refine w_mv (pc1 := 377) (st1 := [.int 1, .ref 0, .ref 30]) rfl rfl rfl ?_
      refine w_mv (pc1 := 378) (st1 := [.int (xs 1), .ref 30]) rfl rfl rfl ?_
      refine w_mv (pc1 := 379) (st1 := [.ref 0, .int (xs 1), .ref 30]) rfl rfl rfl ?_
      refine w_mv (pc1 := 381) (st1 := [.int 0, .ref 0, .int (xs 1), .ref 30]) rfl rfl rfl ?_
      refine w_mv (pc1 := 382) (st1 := [.int 2, .int 0, .ref 0, .int (xs 1), .ref 30]) rfl rfl rfl ?_
      refine w_mv (pc1 := 383) (st1 := [.int 2, .ref 0, .int (xs 1), .ref 30]) rfl rfl rfl ?_
      refine w_mv (pc1 := 384) (st1 := [.int (xs 2), .int (xs 1), .ref 30]) rfl rfl rfl ?_
      refine w_call (M' := sM_154) (vals := [.ref 30, .int (xs 1), .int (xs 2)]) (rest := []) (lv' := [(0, .ref 30), (1, .int (xs 1)), (2, .int (xs 2))]) rfl rfl rfl rfl rfl rfl rfl rfl rfl rfl ?_
      refine w_mv (pc1 := 1) (st1 := [.ref 30]) rfl rfl rfl ?_
      refine w_mv (pc1 := 2) (st1 := [.int (xs 1), .ref 30]) rfl rfl rfl ?_
      refine w_mv (pc1 := 3) (st1 := [.int 0, .int (xs 1), .ref 30]) rfl rfl rfl ?_
      refine w_mv (pc1 := 5) (st1 := [.int 25, .int 0, .int (xs 1), .ref 30]) rfl rfl rfl ?_
      refine w_call (M' := sM_111) (vals := [.int (xs 1), .int 0, .int 25]) (rest := [.ref 30]) (lv' := [(0, .int (xs 1)), (1, .int 0), (2, .int 25)]) rfl rfl rfl rfl rfl rfl rfl rfl rfl rfl ?_
      refine w_mv (pc1 := 1) (st1 := [.int (xs 1)]) rfl rfl rfl ?_
      refine w_mv (pc1 := 2) (st1 := [.int 0, .int (xs 1)]) rfl rfl rfl ?_
      refine w_ilt_F (pc1 := 5) rfl (by decide) rfl (show 0 ≤ (xs 1).toInt by omega) ?_
      refine w_mv (pc1 := 6) (st1 := [.int (xs 1)]) rfl rfl rfl ?_
      refine w_mv (pc1 := 7) (st1 := [.int 25, .int (xs 1)]) rfl rfl rfl ?_
      refine w_igt_F (pc1 := 10) rfl (by decide) rfl (show (xs 1).toInt ≤ 25 by omega) ?_
      refine w_mv (pc1 := 11) (st1 := [.int 1]) rfl rfl rfl ?_
      refine w_mv (pc1 := 15) (st1 := [.int 1]) rfl rfl rfl ?_
      refine w_iret (pc1 := 8) rfl rfl rfl rfl ?_
      refine w_call (M' := sM_112) (vals := [.ref 30, .int 1]) (rest := []) (lv' := [(0, .ref 30), (1, .int 1)]) rfl rfl rfl rfl rfl rfl rfl rfl rfl rfl ?_
      refine w_mv (pc1 := 1) (st1 := [.ref 30]) rfl rfl rfl ?_
      refine w_mv (pc1 := 2) (st1 := [.int 1, .ref 30]) rfl rfl rfl ?_
      refine w_mv (pc1 := 5) (st1 := [.ref 30]) rfl rfl rfl ?_
      refine w_mv (pc1 := 6) (st1 := [.int 0, .ref 30]) rfl rfl rfl ?_
      refine w_mv (pc1 := 10) (st1 := [.int 0, .ref 30]) rfl rfl rfl ?_
      refine w_st (pc1 := 13) (st1 := []) (hs1 := sH_137 3 xs) (dc1 := 0) (ds1 := 0) (dc2 := 61) (ds2 := 146547) rfl rfl rfl rfl rfl ?_
      refine w_mv (pc1 := 14) (st1 := [.int 1]) rfl rfl rfl ?_
      refine w_mv (pc1 := 21) (st1 := []) rfl rfl rfl ?_
      refine w_mv (pc1 := 22) (st1 := [.int 0]) rfl rfl rfl ?_
      refine w_iret (pc1 := 11) rfl rfl rfl rfl ?_
      refine w_mv (pc1 := 16) (st1 := []) rfl rfl rfl ?_
      refine w_mv (pc1 := 17) (st1 := [.ref 30]) rfl rfl rfl ?_
      refine w_mv (pc1 := 20) (st1 := [.int 0]) rfl rfl rfl ?_
      refine w_mv (pc1 := 34) (st1 := []) rfl rfl rfl ?_
      refine w_mv (pc1 := 35) (st1 := [.ref 30]) rfl rfl rfl ?_
      refine w_mv (pc1 := 36) (st1 := [.int 2, .ref 30]) rfl rfl rfl ?_
      refine w_call (M' := sM_113) (vals := [.ref 30, .int 2]) (rest := []) (lv' := [(0, .ref 30), (1, .int 2)]) rfl rfl rfl rfl rfl rfl rfl rfl rfl rfl ?_
      refine w_mv (pc1 := 1) (st1 := [.ref 30]) rfl rfl rfl ?_
      refine w_mv (pc1 := 2) (st1 := [.int 2, .ref 30]) rfl rfl rfl ?_
      refine w_st (pc1 := 5) (st1 := []) (hs1 := sH_138 3 xs) (dc1 := 0) (ds1 := 0) (dc2 := 61) (ds2 := 146547) rfl rfl rfl rfl rfl ?_
      refine w_mv (pc1 := 6) (st1 := [.int 0]) rfl rfl rfl ?_
      refine w_iret (pc1 := 39) rfl rfl rfl rfl ?_
      refine w_iret (pc1 := 387) rfl rfl rfl rfl ?_
      refine w_mv (pc1 := 389) (lv1 := [(6, .int 0), (5, .int 2), (4, .int 0), (3, .ref 61), (2, .ref 30), (1, .ref 2), (0, .ref 0)]) (st1 := []) rfl rfl rfl ?_
      refine w_mv (pc1 := 390) (st1 := [.ref 30]) rfl rfl rfl ?_
      refine w_call (M' := sM_109) (vals := [.ref 30]) (rest := []) (lv' := [(0, .ref 30)]) rfl rfl rfl rfl rfl rfl rfl rfl rfl rfl ?_
      refine w_mv (pc1 := 1) (st1 := [.ref 30]) rfl rfl rfl ?_
      refine w_mv (pc1 := 4) (st1 := [.int 2]) rfl rfl rfl ?_
      refine w_iret (pc1 := 393) rfl rfl rfl rfl ?_
      refine w_mv (pc1 := 395) (st1 := [.int 2, .int 2]) rfl rfl rfl ?_
      refine w_mv (pc1 := 400) (st1 := []) rfl rfl rfl ?_
      refine w_mv (pc1 := 402) (st1 := [.int 2]) rfl rfl rfl ?_
      refine w_mv (pc1 := 417) (st1 := []) rfl rfl rfl ?_
      refine w_mv (pc1 := 501) (st1 := []) rfl rfl rfl ?_
      refine w_mv (pc1 := 504) (lv1 := [(4, .int 3), (6, .int 0), (5, .int 2), (3, .ref 61), (2, .ref 30), (1, .ref 2), (0, .ref 0)]) (st1 := []) rfl rfl rfl ?_
      refine w_mv (pc1 := 23) (st1 := []) rfl rfl rfl ?_
      refine w_mv (pc1 := 25) (st1 := [.int 3]) rfl rfl rfl ?_
      refine w_mv (pc1 := 26) (st1 := [.ref 0, .int 3]) rfl rfl rfl ?_
      refine w_mv (pc1 := 27) (st1 := [.int 3, .int 3]) rfl rfl rfl ?_
      refine w_mv (pc1 := 28) (st1 := [.int 3, .int 3, .int 3]) rfl rfl rfl ?_
      refine w_mv (pc1 := 29) (st1 := [.int 0, .int 3]) rfl rfl rfl ?_
      refine w_mv (pc1 := 507) (st1 := []) rfl rfl rfl ?_
      refine w_mv (pc1 := 508) (st1 := [.int 1]) rfl rfl rfl ?_
      exact sx_wp.stop rfl rfl rfl ⟨rfl, by decide, by decide⟩
    ·
      refine w_ilt_F (pc1 := 10) rfl (by decide) rfl (show 26 ≤ (xs 1).toInt by omega) ?_
      refine w_thr (x := 62) (h9 := 13) (hs1 := sH_127 3 xs) (dc2 := 61) (ds2 := 146547) rfl rfl rfl rfl rfl rfl rfl rfl rfl rfl rfl ?_
      refine w_mv (pc1 := 15) (lv1 := [(4, .ref 62), (0, .ref 2), (1, .int (xs 1)), (2, .int (xs 2)), (3, .ref 61)]) (st1 := []) rfl rfl rfl ?_
      refine w_mv (pc1 := 16) (st1 := [.int 1]) rfl rfl rfl ?_
      refine w_iret (pc1 := 369) rfl rfl rfl rfl ?_
      refine w_mv (pc1 := 371) (lv1 := [(5, .int 1), (4, .int 0), (3, .ref 61), (2, .ref 30), (1, .ref 2), (0, .ref 0)]) (st1 := []) rfl rfl rfl ?_
      refine w_mv (pc1 := 372) (st1 := [.ref 30]) rfl rfl rfl ?_
      refine w_mv (pc1 := 373) (st1 := [.ref 0, .ref 30]) rfl rfl rfl ?_
      refine w_mv (pc1 := 375) (st1 := [.int 0, .ref 0, .ref 30]) rfl rfl rfl ?_
      refine w_mv (pc1 := 376) (st1 := [.int 1, .int 0, .ref 0, .ref 30]) rfl rfl rfl ?_
      refine w_mv (pc1 := 377) (st1 := [.int 1, .ref 0, .ref 30]) rfl rfl rfl ?_
      refine w_mv (pc1 := 378) (st1 := [.int (xs 1), .ref 30]) rfl rfl rfl ?_
      refine w_mv (pc1 := 379) (st1 := [.ref 0, .int (xs 1), .ref 30]) rfl rfl rfl ?_
      refine w_mv (pc1 := 381) (st1 := [.int 0, .ref 0, .int (xs 1), .ref 30]) rfl rfl rfl ?_
      refine w_mv (pc1 := 382) (st1 := [.int 2, .int 0, .ref 0, .int (xs 1), .ref 30]) rfl rfl rfl ?_
      refine w_mv (pc1 := 383) (st1 := [.int 2, .ref 0, .int (xs 1), .ref 30]) rfl rfl rfl ?_
      refine w_mv (pc1 := 384) (st1 := [.int (xs 2), .int (xs 1), .ref 30]) rfl rfl rfl ?_
      refine w_call (M' := sM_154) (vals := [.ref 30, .int (xs 1), .int (xs 2)]) (rest := []) (lv' := [(0, .ref 30), (1, .int (xs 1)), (2, .int (xs 2))]) rfl rfl rfl rfl rfl rfl rfl rfl rfl rfl ?_
      refine w_mv (pc1 := 1) (st1 := [.ref 30]) rfl rfl rfl ?_
      refine w_mv (pc1 := 2) (st1 := [.int (xs 1), .ref 30]) rfl rfl rfl ?_
      refine w_mv (pc1 := 3) (st1 := [.int 0, .int (xs 1), .ref 30]) rfl rfl rfl ?_
      refine w_mv (pc1 := 5) (st1 := [.int 25, .int 0, .int (xs 1), .ref 30]) rfl rfl rfl ?_
      refine w_call (M' := sM_111) (vals := [.int (xs 1), .int 0, .int 25]) (rest := [.ref 30]) (lv' := [(0, .int (xs 1)), (1, .int 0), (2, .int 25)]) rfl rfl rfl rfl rfl rfl rfl rfl rfl rfl ?_
      refine w_mv (pc1 := 1) (st1 := [.int (xs 1)]) rfl rfl rfl ?_
      refine w_mv (pc1 := 2) (st1 := [.int 0, .int (xs 1)]) rfl rfl rfl ?_
      refine w_ilt_F (pc1 := 5) rfl (by decide) rfl (show 0 ≤ (xs 1).toInt by omega) ?_
      refine w_mv (pc1 := 6) (st1 := [.int (xs 1)]) rfl rfl rfl ?_
      refine w_mv (pc1 := 7) (st1 := [.int 25, .int (xs 1)]) rfl rfl rfl ?_
      refine w_igt_T (pc1 := 14) rfl rfl (show 25 < (xs 1).toInt by omega) ?_
      refine w_mv (pc1 := 15) (st1 := [.int 0]) rfl rfl rfl ?_
      refine w_iret (pc1 := 8) rfl rfl rfl rfl ?_
      refine w_call (M' := sM_112) (vals := [.ref 30, .int 0]) (rest := []) (lv' := [(0, .ref 30), (1, .int 0)]) rfl rfl rfl rfl rfl rfl rfl rfl rfl rfl ?_
      refine w_mv (pc1 := 1) (st1 := [.ref 30]) rfl rfl rfl ?_
      refine w_mv (pc1 := 2) (st1 := [.int 0, .ref 30]) rfl rfl rfl ?_
      refine w_mv (pc1 := 9) (st1 := [.ref 30]) rfl rfl rfl ?_
      refine w_mv (pc1 := 10) (st1 := [.int 1, .ref 30]) rfl rfl rfl ?_
      refine w_st (pc1 := 13) (st1 := []) (hs1 := sH_128 3 xs) (dc1 := 0) (ds1 := 0) (dc2 := 61) (ds2 := 146547) rfl rfl rfl rfl rfl ?_
      refine w_mv (pc1 := 14) (st1 := [.int 0]) rfl rfl rfl ?_
      refine w_mv (pc1 := 17) (st1 := []) rfl rfl rfl ?_
      refine w_mv (pc1 := 18) (st1 := [.int 1]) rfl rfl rfl ?_
      refine w_mv (pc1 := 22) (st1 := [.int 1]) rfl rfl rfl ?_
      refine w_iret (pc1 := 11) rfl rfl rfl rfl ?_
      refine w_mv (pc1 := 14) (st1 := []) rfl rfl rfl ?_
      refine w_mv (pc1 := 15) (st1 := [.int 0]) rfl rfl rfl ?_
      refine w_iret (pc1 := 387) rfl rfl rfl rfl ?_
      refine w_mv (pc1 := 389) (lv1 := [(6, .int 0), (5, .int 1), (4, .int 0), (3, .ref 61), (2, .ref 30), (1, .ref 2), (0, .ref 0)]) (st1 := []) rfl rfl rfl ?_
      refine w_mv (pc1 := 390) (st1 := [.ref 30]) rfl rfl rfl ?_
      refine w_call (M' := sM_109) (vals := [.ref 30]) (rest := []) (lv' := [(0, .ref 30)]) rfl rfl rfl rfl rfl rfl rfl rfl rfl rfl ?_
      refine w_mv (pc1 := 1) (st1 := [.ref 30]) rfl rfl rfl ?_
      refine w_mv (pc1 := 4) (st1 := [.int 1]) rfl rfl rfl ?_
      refine w_iret (pc1 := 393) rfl rfl rfl rfl ?_
      refine w_mv (pc1 := 395) (st1 := [.int 1, .int 1]) rfl rfl rfl ?_
      refine w_mv (pc1 := 400) (st1 := []) rfl rfl rfl ?_
      refine w_mv (pc1 := 402) (st1 := [.int 1]) rfl rfl rfl ?_
      refine w_mv (pc1 := 417) (st1 := []) rfl rfl rfl ?_
      refine w_mv (pc1 := 501) (st1 := []) rfl rfl rfl ?_
      refine w_mv (pc1 := 504) (lv1 := [(4, .int 3), (6, .int 0), (5, .int 1), (3, .ref 61), (2, .ref 30), (1, .ref 2), (0, .ref 0)]) (st1 := []) rfl rfl rfl ?_
      refine w_mv (pc1 := 23) (st1 := []) rfl rfl rfl ?_
      refine w_mv (pc1 := 25) (st1 := [.int 3]) rfl rfl rfl ?_
      refine w_mv (pc1 := 26) (st1 := [.ref 0, .int 3]) rfl rfl rfl ?_
      refine w_mv (pc1 := 27) (st1 := [.int 3, .int 3]) rfl rfl rfl ?_
      refine w_mv (pc1 := 28) (st1 := [.int 3, .int 3, .int 3]) rfl rfl rfl ?_
      refine w_mv (pc1 := 29) (st1 := [.int 0, .int 3]) rfl rfl rfl ?_
      refine w_mv (pc1 := 507) (st1 := []) rfl rfl rfl ?_
      refine w_mv (pc1 := 508) (st1 := [.int 1]) rfl rfl rfl ?_
      exact sx_wp.stop rfl rfl rfl ⟨rfl, by decide, by decide⟩
set_option maxRecDepth 20000 in
set_option maxHeartbeats 4000000 in
theorem s_k_sleeping (xs : Nat → Int32)  : s_wp 20 sM_law 420 [(4, .int 0), (3, .ref 61), (2, .ref 30), (1, .ref 2), (0, .ref 0)] [] (sH_121 3 xs) 60 146541 s_fin := by
  refine w_mv (pc1 := 421) (st1 := [.ref 2]) rfl rfl rfl ?_
  refine w_mv (pc1 := 422) (st1 := [.ref 0, .ref 2]) rfl rfl rfl ?_
  refine w_mv (pc1 := 424) (st1 := [.int 0, .ref 0, .ref 2]) rfl rfl rfl ?_
  refine w_mv (pc1 := 425) (st1 := [.int 1, .int 0, .ref 0, .ref 2]) rfl rfl rfl ?_
  refine w_mv (pc1 := 426) (st1 := [.int 1, .ref 0, .ref 2]) rfl rfl rfl ?_
  refine w_mv (pc1 := 427) (st1 := [.int (xs 1), .ref 2]) rfl rfl rfl ?_
  refine w_mv (pc1 := 428) (st1 := [.ref 61, .int (xs 1), .ref 2]) rfl rfl rfl ?_
  refine w_call (M' := sM_105) (vals := [.ref 2, .int (xs 1), .ref 61]) (rest := []) (lv' := [(0, .ref 2), (1, .int (xs 1)), (2, .ref 61)]) rfl rfl rfl rfl rfl rfl rfl rfl rfl rfl ?_
  refine w_mv (pc1 := 1) (st1 := [.ref 61]) rfl rfl rfl ?_
  refine w_mv (pc1 := 2) (st1 := [.int 0, .ref 61]) rfl rfl rfl ?_
  refine w_mv (pc1 := 3) (st1 := [.ref 2, .int 0, .ref 61]) rfl rfl rfl ?_
  refine w_mv (pc1 := 4) (st1 := [.int (xs 1), .ref 2, .int 0, .ref 61]) rfl rfl rfl ?_
  refine w_call (M' := sM_106) (vals := [.ref 2, .int (xs 1)]) (rest := [.int 0, .ref 61]) (lv' := [(0, .ref 2), (1, .int (xs 1))]) rfl rfl rfl rfl rfl rfl rfl rfl rfl rfl ?_
  refine w_mv (pc1 := 1) (st1 := [.int (xs 1)]) rfl rfl rfl ?_
  by_cases h1 : (xs 1).toInt < 0
  ·
    refine w_zlt_T (pc1 := 10) rfl rfl (show (xs 1).toInt < 0 by omega) ?_
    refine w_thr (x := 62) (h9 := 12) (hs1 := sH_127 3 xs) (dc2 := 61) (ds2 := 146547) rfl rfl rfl rfl rfl rfl rfl rfl rfl rfl rfl ?_
    refine w_mv (pc1 := 13) (lv1 := [(3, .ref 62), (0, .ref 2), (1, .int (xs 1)), (2, .ref 61)]) (st1 := []) rfl rfl rfl ?_
    refine w_mv (pc1 := 14) (st1 := [.int 1]) rfl rfl rfl ?_
    refine w_iret (pc1 := 431) rfl rfl rfl rfl ?_
    refine w_mv (pc1 := 433) (lv1 := [(5, .int 1), (4, .int 0), (3, .ref 61), (2, .ref 30), (1, .ref 2), (0, .ref 0)]) (st1 := []) rfl rfl rfl ?_
    refine w_mv (pc1 := 434) (st1 := [.ref 30]) rfl rfl rfl ?_
    refine w_mv (pc1 := 435) (st1 := [.ref 0, .ref 30]) rfl rfl rfl ?_
    refine w_mv (pc1 := 437) (st1 := [.int 0, .ref 0, .ref 30]) rfl rfl rfl ?_
    refine w_mv (pc1 := 438) (st1 := [.int 1, .int 0, .ref 0, .ref 30]) rfl rfl rfl ?_
    refine w_mv (pc1 := 439) (st1 := [.int 1, .ref 0, .ref 30]) rfl rfl rfl ?_
    refine w_mv (pc1 := 440) (st1 := [.int (xs 1), .ref 30]) rfl rfl rfl ?_
    refine w_call (M' := sM_158) (vals := [.ref 30, .int (xs 1)]) (rest := []) (lv' := [(0, .ref 30), (1, .int (xs 1))]) rfl rfl rfl rfl rfl rfl rfl rfl rfl rfl ?_
    refine w_mv (pc1 := 1) (st1 := [.ref 30]) rfl rfl rfl ?_
    refine w_mv (pc1 := 2) (st1 := [.int (xs 1), .ref 30]) rfl rfl rfl ?_
    refine w_mv (pc1 := 3) (st1 := [.int 0, .int (xs 1), .ref 30]) rfl rfl rfl ?_
    refine w_mv (pc1 := 5) (st1 := [.int 25, .int 0, .int (xs 1), .ref 30]) rfl rfl rfl ?_
    refine w_call (M' := sM_111) (vals := [.int (xs 1), .int 0, .int 25]) (rest := [.ref 30]) (lv' := [(0, .int (xs 1)), (1, .int 0), (2, .int 25)]) rfl rfl rfl rfl rfl rfl rfl rfl rfl rfl ?_
    refine w_mv (pc1 := 1) (st1 := [.int (xs 1)]) rfl rfl rfl ?_
    refine w_mv (pc1 := 2) (st1 := [.int 0, .int (xs 1)]) rfl rfl rfl ?_
    refine w_ilt_T (pc1 := 14) rfl rfl (show (xs 1).toInt < 0 by omega) ?_
    refine w_mv (pc1 := 15) (st1 := [.int 0]) rfl rfl rfl ?_
    refine w_iret (pc1 := 8) rfl rfl rfl rfl ?_
    refine w_call (M' := sM_112) (vals := [.ref 30, .int 0]) (rest := []) (lv' := [(0, .ref 30), (1, .int 0)]) rfl rfl rfl rfl rfl rfl rfl rfl rfl rfl ?_
    refine w_mv (pc1 := 1) (st1 := [.ref 30]) rfl rfl rfl ?_
    refine w_mv (pc1 := 2) (st1 := [.int 0, .ref 30]) rfl rfl rfl ?_
    refine w_mv (pc1 := 9) (st1 := [.ref 30]) rfl rfl rfl ?_
    refine w_mv (pc1 := 10) (st1 := [.int 1, .ref 30]) rfl rfl rfl ?_
    refine w_st (pc1 := 13) (st1 := []) (hs1 := sH_128 3 xs) (dc1 := 0) (ds1 := 0) (dc2 := 61) (ds2 := 146547) rfl rfl rfl rfl rfl ?_
    refine w_mv (pc1 := 14) (st1 := [.int 0]) rfl rfl rfl ?_
    refine w_mv (pc1 := 17) (st1 := []) rfl rfl rfl ?_
    refine w_mv (pc1 := 18) (st1 := [.int 1]) rfl rfl rfl ?_
    refine w_mv (pc1 := 22) (st1 := [.int 1]) rfl rfl rfl ?_
    refine w_iret (pc1 := 11) rfl rfl rfl rfl ?_
    refine w_mv (pc1 := 14) (st1 := []) rfl rfl rfl ?_
    refine w_mv (pc1 := 15) (st1 := [.int 0]) rfl rfl rfl ?_
    refine w_iret (pc1 := 443) rfl rfl rfl rfl ?_
    refine w_mv (pc1 := 445) (lv1 := [(6, .int 0), (5, .int 1), (4, .int 0), (3, .ref 61), (2, .ref 30), (1, .ref 2), (0, .ref 0)]) (st1 := []) rfl rfl rfl ?_
    refine w_mv (pc1 := 446) (st1 := [.ref 30]) rfl rfl rfl ?_
    refine w_call (M' := sM_109) (vals := [.ref 30]) (rest := []) (lv' := [(0, .ref 30)]) rfl rfl rfl rfl rfl rfl rfl rfl rfl rfl ?_
    refine w_mv (pc1 := 1) (st1 := [.ref 30]) rfl rfl rfl ?_
    refine w_mv (pc1 := 4) (st1 := [.int 1]) rfl rfl rfl ?_
    refine w_iret (pc1 := 449) rfl rfl rfl rfl ?_
    refine w_mv (pc1 := 451) (st1 := [.int 1, .int 1]) rfl rfl rfl ?_
    refine w_mv (pc1 := 456) (st1 := []) rfl rfl rfl ?_
    refine w_mv (pc1 := 458) (st1 := [.int 1]) rfl rfl rfl ?_
    refine w_mv (pc1 := 473) (st1 := []) rfl rfl rfl ?_
    refine w_mv (pc1 := 501) (st1 := []) rfl rfl rfl ?_
    refine w_mv (pc1 := 504) (lv1 := [(4, .int 3), (6, .int 0), (5, .int 1), (3, .ref 61), (2, .ref 30), (1, .ref 2), (0, .ref 0)]) (st1 := []) rfl rfl rfl ?_
    refine w_mv (pc1 := 23) (st1 := []) rfl rfl rfl ?_
    refine w_mv (pc1 := 25) (st1 := [.int 3]) rfl rfl rfl ?_
    refine w_mv (pc1 := 26) (st1 := [.ref 0, .int 3]) rfl rfl rfl ?_
    refine w_mv (pc1 := 27) (st1 := [.int 3, .int 3]) rfl rfl rfl ?_
    refine w_mv (pc1 := 28) (st1 := [.int 3, .int 3, .int 3]) rfl rfl rfl ?_
    refine w_mv (pc1 := 29) (st1 := [.int 0, .int 3]) rfl rfl rfl ?_
    refine w_mv (pc1 := 507) (st1 := []) rfl rfl rfl ?_
    refine w_mv (pc1 := 508) (st1 := [.int 1]) rfl rfl rfl ?_
    exact sx_wp.stop rfl rfl rfl ⟨rfl, by decide, by decide⟩
  ·
    refine w_zlt_F (pc1 := 4) rfl (by decide) rfl (show 0 ≤ (xs 1).toInt by omega) ?_
    refine w_mv (pc1 := 5) (st1 := [.int (xs 1)]) rfl rfl rfl ?_
    refine w_mv (pc1 := 7) (st1 := [.int 26, .int (xs 1)]) rfl rfl rfl ?_
    by_cases h2 : (xs 1).toInt < 26
    ·
      refine w_ilt_T (pc1 := 18) rfl rfl (show (xs 1).toInt < 26 by omega) ?_
      refine w_mv (pc1 := 19) (st1 := [.ref 2]) rfl rfl rfl ?_
      refine w_mv (pc1 := 22) (st1 := [.ref 6]) rfl rfl rfl ?_
      refine w_mv (pc1 := 23) (st1 := [.int (xs 1), .ref 6]) rfl rfl rfl ?_
      refine w_call (M' := sM_103) (vals := [.ref 6, .int (xs 1)]) (rest := []) (lv' := [(0, .ref 6), (1, .int (xs 1))]) rfl rfl rfl rfl rfl rfl rfl rfl rfl rfl ?_
      refine w_mv (pc1 := 1) (st1 := [.int (xs 1)]) rfl rfl rfl ?_
      refine w_zlt_F (pc1 := 4) rfl (by decide) rfl (show 0 ≤ (xs 1).toInt by omega) ?_
      refine w_mv (pc1 := 5) (st1 := [.int (xs 1)]) rfl rfl rfl ?_
      refine w_mv (pc1 := 7) (st1 := [.int 26, .int (xs 1)]) rfl rfl rfl ?_
      refine w_ige_F (pc1 := 10) rfl (by decide) rfl (show (xs 1).toInt < 26 by omega) ?_
      refine w_mv (pc1 := 11) (st1 := [.ref 6]) rfl rfl rfl ?_
      refine w_mv (pc1 := 14) (st1 := [.ref 19]) rfl rfl rfl ?_
      refine w_mv (pc1 := 15) (st1 := [.int (xs 1), .ref 19]) rfl rfl rfl ?_
      refine w_ald (x := 19) (t := 6) (A := (26, .inr (.inr (.inr (.inr (fun _ => none)))))) (v := .null) (pc1 := 16) rfl rfl rfl rfl rfl (show 0 ≤ (xs 1).toInt by omega) (show (xs 1).toInt < 26 by omega) rfl rfl ?_
      refine w_mv (pc1 := 20) (st1 := [.null]) rfl rfl rfl ?_
      refine w_nret (pc1 := 26) rfl rfl rfl rfl ?_
      refine w_mv (pc1 := 27) (lv1 := [(2, .null), (0, .ref 2), (1, .int (xs 1))]) (st1 := []) rfl rfl rfl ?_
      refine w_mv (pc1 := 28) (st1 := [.null]) rfl rfl rfl ?_
      refine w_mv (pc1 := 31) (st1 := []) rfl rfl rfl ?_
      refine w_mv (pc1 := 32) (st1 := [.int (-1)]) rfl rfl rfl ?_
      refine w_mv (pc1 := 46) (st1 := [.int (-1)]) rfl rfl rfl ?_
      refine w_iret (pc1 := 7) rfl rfl rfl rfl ?_
      refine w_mv (pc1 := 8) (st1 := [.long (-1), .int 0, .ref 61]) rfl rfl rfl ?_
      refine w_st (pc1 := 9) (st1 := []) (hs1 := sH_139 3 xs) (dc1 := 0) (ds1 := 0) (dc2 := 60) (ds2 := 146541) rfl rfl rfl rfl rfl ?_
      refine w_mv (pc1 := 15) (st1 := []) rfl rfl rfl ?_
      refine w_mv (pc1 := 16) (st1 := [.int 0]) rfl rfl rfl ?_
      refine w_iret (pc1 := 431) rfl rfl rfl rfl ?_
      refine w_mv (pc1 := 433) (lv1 := [(5, .int 0), (4, .int 0), (3, .ref 61), (2, .ref 30), (1, .ref 2), (0, .ref 0)]) (st1 := []) rfl rfl rfl ?_
      refine w_mv (pc1 := 434) (st1 := [.ref 30]) rfl rfl rfl ?_
      refine w_mv (pc1 := 435) (st1 := [.ref 0, .ref 30]) rfl rfl rfl ?_
      refine w_mv (pc1 := 437) (st1 := [.int 0, .ref 0, .ref 30]) rfl rfl rfl ?_
      refine w_mv (pc1 := 438) (st1 := [.int 1, .int 0, .ref 0, .ref 30]) rfl rfl rfl ?_
      refine w_mv (pc1 := 439) (st1 := [.int 1, .ref 0, .ref 30]) rfl rfl rfl ?_
      refine w_mv (pc1 := 440) (st1 := [.int (xs 1), .ref 30]) rfl rfl rfl ?_
      refine w_call (M' := sM_158) (vals := [.ref 30, .int (xs 1)]) (rest := []) (lv' := [(0, .ref 30), (1, .int (xs 1))]) rfl rfl rfl rfl rfl rfl rfl rfl rfl rfl ?_
      refine w_mv (pc1 := 1) (st1 := [.ref 30]) rfl rfl rfl ?_
      refine w_mv (pc1 := 2) (st1 := [.int (xs 1), .ref 30]) rfl rfl rfl ?_
      refine w_mv (pc1 := 3) (st1 := [.int 0, .int (xs 1), .ref 30]) rfl rfl rfl ?_
      refine w_mv (pc1 := 5) (st1 := [.int 25, .int 0, .int (xs 1), .ref 30]) rfl rfl rfl ?_
      refine w_call (M' := sM_111) (vals := [.int (xs 1), .int 0, .int 25]) (rest := [.ref 30]) (lv' := [(0, .int (xs 1)), (1, .int 0), (2, .int 25)]) rfl rfl rfl rfl rfl rfl rfl rfl rfl rfl ?_
      refine w_mv (pc1 := 1) (st1 := [.int (xs 1)]) rfl rfl rfl ?_
      refine w_mv (pc1 := 2) (st1 := [.int 0, .int (xs 1)]) rfl rfl rfl ?_
      refine w_ilt_F (pc1 := 5) rfl (by decide) rfl (show 0 ≤ (xs 1).toInt by omega) ?_
      refine w_mv (pc1 := 6) (st1 := [.int (xs 1)]) rfl rfl rfl ?_
      refine w_mv (pc1 := 7) (st1 := [.int 25, .int (xs 1)]) rfl rfl rfl ?_
      refine w_igt_F (pc1 := 10) rfl (by decide) rfl (show (xs 1).toInt ≤ 25 by omega) ?_
      refine w_mv (pc1 := 11) (st1 := [.int 1]) rfl rfl rfl ?_
      refine w_mv (pc1 := 15) (st1 := [.int 1]) rfl rfl rfl ?_
      refine w_iret (pc1 := 8) rfl rfl rfl rfl ?_
      refine w_call (M' := sM_112) (vals := [.ref 30, .int 1]) (rest := []) (lv' := [(0, .ref 30), (1, .int 1)]) rfl rfl rfl rfl rfl rfl rfl rfl rfl rfl ?_
      refine w_mv (pc1 := 1) (st1 := [.ref 30]) rfl rfl rfl ?_
      refine w_mv (pc1 := 2) (st1 := [.int 1, .ref 30]) rfl rfl rfl ?_
      refine w_mv (pc1 := 5) (st1 := [.ref 30]) rfl rfl rfl ?_
      refine w_mv (pc1 := 6) (st1 := [.int 0, .ref 30]) rfl rfl rfl ?_
      refine w_mv (pc1 := 10) (st1 := [.int 0, .ref 30]) rfl rfl rfl ?_
      refine w_st (pc1 := 13) (st1 := []) (hs1 := sH_139 3 xs) (dc1 := 0) (ds1 := 0) (dc2 := 60) (ds2 := 146541) rfl rfl rfl rfl rfl ?_
      refine w_mv (pc1 := 14) (st1 := [.int 1]) rfl rfl rfl ?_
      refine w_mv (pc1 := 21) (st1 := []) rfl rfl rfl ?_
      refine w_mv (pc1 := 22) (st1 := [.int 0]) rfl rfl rfl ?_
      refine w_iret (pc1 := 11) rfl rfl rfl rfl ?_
      refine w_mv (pc1 := 16) (st1 := []) rfl rfl rfl ?_
      refine w_mv (pc1 := 17) (st1 := [.ref 30]) rfl rfl rfl ?_
      refine w_mv (pc1 := 20) (st1 := [.int 0]) rfl rfl rfl ?_
      refine w_mv (pc1 := 34) (st1 := []) rfl rfl rfl ?_
      refine w_mv (pc1 := 35) (st1 := [.int (-1)]) rfl rfl rfl ?_
      refine w_iret (pc1 := 443) rfl rfl rfl rfl ?_
      refine w_mv (pc1 := 445) (lv1 := [(6, .int (-1)), (5, .int 0), (4, .int 0), (3, .ref 61), (2, .ref 30), (1, .ref 2), (0, .ref 0)]) (st1 := []) rfl rfl rfl ?_
      refine w_mv (pc1 := 446) (st1 := [.ref 30]) rfl rfl rfl ?_
      refine w_call (M' := sM_109) (vals := [.ref 30]) (rest := []) (lv' := [(0, .ref 30)]) rfl rfl rfl rfl rfl rfl rfl rfl rfl rfl ?_
      refine w_mv (pc1 := 1) (st1 := [.ref 30]) rfl rfl rfl ?_
      refine w_mv (pc1 := 4) (st1 := [.int 0]) rfl rfl rfl ?_
      refine w_iret (pc1 := 449) rfl rfl rfl rfl ?_
      refine w_mv (pc1 := 451) (st1 := [.int 0, .int 0]) rfl rfl rfl ?_
      refine w_mv (pc1 := 456) (st1 := []) rfl rfl rfl ?_
      refine w_mv (pc1 := 458) (st1 := [.int 0]) rfl rfl rfl ?_
      refine w_mv (pc1 := 461) (st1 := []) rfl rfl rfl ?_
      refine w_mv (pc1 := 462) (st1 := [.ref 61]) rfl rfl rfl ?_
      refine w_mv (pc1 := 463) (st1 := [.int 0, .ref 61]) rfl rfl rfl ?_
      refine w_mv (pc1 := 464) (st1 := [.long (-1)]) rfl rfl rfl ?_
      refine w_mv (pc1 := 466) (st1 := [.int (-1), .long (-1)]) rfl rfl rfl ?_
      refine w_mv (pc1 := 467) (st1 := [.long (-1), .long (-1)]) rfl rfl rfl ?_
      refine w_mv (pc1 := 468) (st1 := [.int 0]) rfl rfl rfl ?_
      refine w_mv (pc1 := 473) (st1 := []) rfl rfl rfl ?_
      refine w_mv (pc1 := 501) (st1 := []) rfl rfl rfl ?_
      refine w_mv (pc1 := 504) (lv1 := [(4, .int 3), (6, .int (-1)), (5, .int 0), (3, .ref 61), (2, .ref 30), (1, .ref 2), (0, .ref 0)]) (st1 := []) rfl rfl rfl ?_
      refine w_mv (pc1 := 23) (st1 := []) rfl rfl rfl ?_
      refine w_mv (pc1 := 25) (st1 := [.int 3]) rfl rfl rfl ?_
      refine w_mv (pc1 := 26) (st1 := [.ref 0, .int 3]) rfl rfl rfl ?_
      refine w_mv (pc1 := 27) (st1 := [.int 3, .int 3]) rfl rfl rfl ?_
      refine w_mv (pc1 := 28) (st1 := [.int 3, .int 3, .int 3]) rfl rfl rfl ?_
      refine w_mv (pc1 := 29) (st1 := [.int 0, .int 3]) rfl rfl rfl ?_
      refine w_mv (pc1 := 507) (st1 := []) rfl rfl rfl ?_
      refine w_mv (pc1 := 508) (st1 := [.int 1]) rfl rfl rfl ?_
      exact sx_wp.stop rfl rfl rfl ⟨rfl, by decide, by decide⟩
    ·
      refine w_ilt_F (pc1 := 10) rfl (by decide) rfl (show 26 ≤ (xs 1).toInt by omega) ?_
      refine w_thr (x := 62) (h9 := 12) (hs1 := sH_127 3 xs) (dc2 := 61) (ds2 := 146547) rfl rfl rfl rfl rfl rfl rfl rfl rfl rfl rfl ?_
      refine w_mv (pc1 := 13) (lv1 := [(3, .ref 62), (0, .ref 2), (1, .int (xs 1)), (2, .ref 61)]) (st1 := []) rfl rfl rfl ?_
      refine w_mv (pc1 := 14) (st1 := [.int 1]) rfl rfl rfl ?_
      refine w_iret (pc1 := 431) rfl rfl rfl rfl ?_
      refine w_mv (pc1 := 433) (lv1 := [(5, .int 1), (4, .int 0), (3, .ref 61), (2, .ref 30), (1, .ref 2), (0, .ref 0)]) (st1 := []) rfl rfl rfl ?_
      refine w_mv (pc1 := 434) (st1 := [.ref 30]) rfl rfl rfl ?_
      refine w_mv (pc1 := 435) (st1 := [.ref 0, .ref 30]) rfl rfl rfl ?_
      refine w_mv (pc1 := 437) (st1 := [.int 0, .ref 0, .ref 30]) rfl rfl rfl ?_
      refine w_mv (pc1 := 438) (st1 := [.int 1, .int 0, .ref 0, .ref 30]) rfl rfl rfl ?_
      refine w_mv (pc1 := 439) (st1 := [.int 1, .ref 0, .ref 30]) rfl rfl rfl ?_
      refine w_mv (pc1 := 440) (st1 := [.int (xs 1), .ref 30]) rfl rfl rfl ?_
      refine w_call (M' := sM_158) (vals := [.ref 30, .int (xs 1)]) (rest := []) (lv' := [(0, .ref 30), (1, .int (xs 1))]) rfl rfl rfl rfl rfl rfl rfl rfl rfl rfl ?_
      refine w_mv (pc1 := 1) (st1 := [.ref 30]) rfl rfl rfl ?_
      refine w_mv (pc1 := 2) (st1 := [.int (xs 1), .ref 30]) rfl rfl rfl ?_
      refine w_mv (pc1 := 3) (st1 := [.int 0, .int (xs 1), .ref 30]) rfl rfl rfl ?_
      refine w_mv (pc1 := 5) (st1 := [.int 25, .int 0, .int (xs 1), .ref 30]) rfl rfl rfl ?_
      refine w_call (M' := sM_111) (vals := [.int (xs 1), .int 0, .int 25]) (rest := [.ref 30]) (lv' := [(0, .int (xs 1)), (1, .int 0), (2, .int 25)]) rfl rfl rfl rfl rfl rfl rfl rfl rfl rfl ?_
      refine w_mv (pc1 := 1) (st1 := [.int (xs 1)]) rfl rfl rfl ?_
      refine w_mv (pc1 := 2) (st1 := [.int 0, .int (xs 1)]) rfl rfl rfl ?_
      refine w_ilt_F (pc1 := 5) rfl (by decide) rfl (show 0 ≤ (xs 1).toInt by omega) ?_
      refine w_mv (pc1 := 6) (st1 := [.int (xs 1)]) rfl rfl rfl ?_
      refine w_mv (pc1 := 7) (st1 := [.int 25, .int (xs 1)]) rfl rfl rfl ?_
      refine w_igt_T (pc1 := 14) rfl rfl (show 25 < (xs 1).toInt by omega) ?_
      refine w_mv (pc1 := 15) (st1 := [.int 0]) rfl rfl rfl ?_
      refine w_iret (pc1 := 8) rfl rfl rfl rfl ?_
      refine w_call (M' := sM_112) (vals := [.ref 30, .int 0]) (rest := []) (lv' := [(0, .ref 30), (1, .int 0)]) rfl rfl rfl rfl rfl rfl rfl rfl rfl rfl ?_
      refine w_mv (pc1 := 1) (st1 := [.ref 30]) rfl rfl rfl ?_
      refine w_mv (pc1 := 2) (st1 := [.int 0, .ref 30]) rfl rfl rfl ?_
      refine w_mv (pc1 := 9) (st1 := [.ref 30]) rfl rfl rfl ?_
      refine w_mv (pc1 := 10) (st1 := [.int 1, .ref 30]) rfl rfl rfl ?_
      refine w_st (pc1 := 13) (st1 := []) (hs1 := sH_128 3 xs) (dc1 := 0) (ds1 := 0) (dc2 := 61) (ds2 := 146547) rfl rfl rfl rfl rfl ?_
      refine w_mv (pc1 := 14) (st1 := [.int 0]) rfl rfl rfl ?_
      refine w_mv (pc1 := 17) (st1 := []) rfl rfl rfl ?_
      refine w_mv (pc1 := 18) (st1 := [.int 1]) rfl rfl rfl ?_
      refine w_mv (pc1 := 22) (st1 := [.int 1]) rfl rfl rfl ?_
      refine w_iret (pc1 := 11) rfl rfl rfl rfl ?_
      refine w_mv (pc1 := 14) (st1 := []) rfl rfl rfl ?_
      refine w_mv (pc1 := 15) (st1 := [.int 0]) rfl rfl rfl ?_
      refine w_iret (pc1 := 443) rfl rfl rfl rfl ?_
      refine w_mv (pc1 := 445) (lv1 := [(6, .int 0), (5, .int 1), (4, .int 0), (3, .ref 61), (2, .ref 30), (1, .ref 2), (0, .ref 0)]) (st1 := []) rfl rfl rfl ?_
      refine w_mv (pc1 := 446) (st1 := [.ref 30]) rfl rfl rfl ?_
      refine w_call (M' := sM_109) (vals := [.ref 30]) (rest := []) (lv' := [(0, .ref 30)]) rfl rfl rfl rfl rfl rfl rfl rfl rfl rfl ?_
      refine w_mv (pc1 := 1) (st1 := [.ref 30]) rfl rfl rfl ?_
      refine w_mv (pc1 := 4) (st1 := [.int 1]) rfl rfl rfl ?_
      refine w_iret (pc1 := 449) rfl rfl rfl rfl ?_
      refine w_mv (pc1 := 451) (st1 := [.int 1, .int 1]) rfl rfl rfl ?_
      refine w_mv (pc1 := 456) (st1 := []) rfl rfl rfl ?_
      refine w_mv (pc1 := 458) (st1 := [.int 1]) rfl rfl rfl ?_
      refine w_mv (pc1 := 473) (st1 := []) rfl rfl rfl ?_
      refine w_mv (pc1 := 501) (st1 := []) rfl rfl rfl ?_
      refine w_mv (pc1 := 504) (lv1 := [(4, .int 3), (6, .int 0), (5, .int 1), (3, .ref 61), (2, .ref 30), (1, .ref 2), (0, .ref 0)]) (st1 := []) rfl rfl rfl ?_
      refine w_mv (pc1 := 23) (st1 := []) rfl rfl rfl ?_
      refine w_mv (pc1 := 25) (st1 := [.int 3]) rfl rfl rfl ?_
      refine w_mv (pc1 := 26) (st1 := [.ref 0, .int 3]) rfl rfl rfl ?_
      refine w_mv (pc1 := 27) (st1 := [.int 3, .int 3]) rfl rfl rfl ?_
      refine w_mv (pc1 := 28) (st1 := [.int 3, .int 3, .int 3]) rfl rfl rfl ?_
      refine w_mv (pc1 := 29) (st1 := [.int 0, .int 3]) rfl rfl rfl ?_
      refine w_mv (pc1 := 507) (st1 := []) rfl rfl rfl ?_
      refine w_mv (pc1 := 508) (st1 := [.int 1]) rfl rfl rfl ?_
      exact sx_wp.stop rfl rfl rfl ⟨rfl, by decide, by decide⟩
