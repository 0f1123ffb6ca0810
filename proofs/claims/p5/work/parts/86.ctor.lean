/-! THE TWO CONSTRUCTORS (by program: wip/sx/gen_p2_ctor.py) -/
def sH_0 (L : Nat) (xs : Nat → Int32) : sx_H := [.inl (0, (L, .inl xs)), .inl (4, (0, .inr (.inr (.inr (.inr (fun _ => none)))))), .inl (1, (100, .inl s_dO)), .inl (1, (100, .inl s_dT)), .inr (.inr 0)]
def sc_0 : sx_C := .inr (.inl (0, [.null, .int 0, .null, .null, .null]))
def sH_1 (L : Nat) (xs : Nat → Int32) : sx_H := [.inl (0, (L, .inl xs)), .inl (4, (0, .inr (.inr (.inr (.inr (fun _ => none)))))), .inl (1, (100, .inl s_dO)), .inl (1, (100, .inl s_dT)), .inr (.inr 0), sc_0]
def sc_1 : sx_C := .inr (.inl (1, [.null, .int 0, .int 0]))
def sH_2 (L : Nat) (xs : Nat → Int32) : sx_H := [.inl (0, (L, .inl xs)), .inl (4, (0, .inr (.inr (.inr (.inr (fun _ => none)))))), .inl (1, (100, .inl s_dO)), .inl (1, (100, .inl s_dT)), .inr (.inr 0), sc_0, sc_1]
def sc_2 : sx_C := .inl (1, (48, .inl (fun _ => 0)))
def sH_3 (L : Nat) (xs : Nat → Int32) : sx_H := [.inl (0, (L, .inl xs)), .inl (4, (0, .inr (.inr (.inr (.inr (fun _ => none)))))), .inl (1, (100, .inl s_dO)), .inl (1, (100, .inl s_dT)), .inr (.inr 0), sc_0, sc_1, sc_2]
def sc_3 : sx_C := .inr (.inl (1, [.ref 7, .int 0, .int 0]))
def sH_4 (L : Nat) (xs : Nat → Int32) : sx_H := [.inl (0, (L, .inl xs)), .inl (4, (0, .inr (.inr (.inr (.inr (fun _ => none)))))), .inl (1, (100, .inl s_dO)), .inl (1, (100, .inl s_dT)), .inr (.inr 0), sc_0, sc_3, sc_2]
def sc_4 : sx_C := .inr (.inl (0, [.ref 6, .int 0, .null, .null, .null]))
def sH_5 (L : Nat) (xs : Nat → Int32) : sx_H := [.inl (0, (L, .inl xs)), .inl (4, (0, .inr (.inr (.inr (.inr (fun _ => none)))))), .inl (1, (100, .inl s_dO)), .inl (1, (100, .inl s_dT)), .inr (.inr 0), sc_4, sc_3, sc_2]
def sc_5 : sx_C := .inr (.inl (0, [.ref 6, .int (-1), .null, .null, .null]))
def sH_6 (L : Nat) (xs : Nat → Int32) : sx_H := [.inl (0, (L, .inl xs)), .inl (4, (0, .inr (.inr (.inr (.inr (fun _ => none)))))), .inl (1, (100, .inl s_dO)), .inl (1, (100, .inl s_dT)), .inr (.inr 0), sc_5, sc_3, sc_2]
def sc_6 : sx_C := .inr (.inl (13, [.null, .int 0, .int 0]))
def sH_7 (L : Nat) (xs : Nat → Int32) : sx_H := [.inl (0, (L, .inl xs)), .inl (4, (0, .inr (.inr (.inr (.inr (fun _ => none)))))), .inl (1, (100, .inl s_dO)), .inl (1, (100, .inl s_dT)), .inr (.inr 0), sc_5, sc_3, sc_2, sc_6]
def sc_7 : sx_C := .inr (.inl (13, [.ref 1, .int 0, .int 0]))
def sH_8 (L : Nat) (xs : Nat → Int32) : sx_H := [.inl (0, (L, .inl xs)), .inl (4, (0, .inr (.inr (.inr (.inr (fun _ => none)))))), .inl (1, (100, .inl s_dO)), .inl (1, (100, .inl s_dT)), .inr (.inr 0), sc_5, sc_3, sc_2, sc_7]
def sc_8 : sx_C := .inr (.inl (0, [.ref 6, .int (-1), .ref 8, .null, .null]))
def sH_9 (L : Nat) (xs : Nat → Int32) : sx_H := [.inl (0, (L, .inl xs)), .inl (4, (0, .inr (.inr (.inr (.inr (fun _ => none)))))), .inl (1, (100, .inl s_dO)), .inl (1, (100, .inl s_dT)), .inr (.inr 0), sc_8, sc_3, sc_2, sc_7]
def sc_9 : sx_C := .inr (.inl (2, [.null, .null, .null, .null, .null, .int 0, .int 0, .int 0]))
def sH_10 (L : Nat) (xs : Nat → Int32) : sx_H := [.inl (0, (L, .inl xs)), .inl (4, (0, .inr (.inr (.inr (.inr (fun _ => none)))))), .inl (1, (100, .inl s_dO)), .inl (1, (100, .inl s_dT)), .inr (.inr 0), sc_8, sc_3, sc_2, sc_7, sc_9]
def sc_10 : sx_C := .inr (.inl (3, [.null, .null, .null, .int 0, .null]))
def sH_11 (L : Nat) (xs : Nat → Int32) : sx_H := [.inl (0, (L, .inl xs)), .inl (4, (0, .inr (.inr (.inr (.inr (fun _ => none)))))), .inl (1, (100, .inl s_dO)), .inl (1, (100, .inl s_dT)), .inr (.inr 0), sc_8, sc_3, sc_2, sc_7, sc_9, sc_10]
def sc_11 : sx_C := .inr (.inl (4, [.null, .int 0, .int 0]))
def sH_12 (L : Nat) (xs : Nat → Int32) : sx_H := [.inl (0, (L, .inl xs)), .inl (4, (0, .inr (.inr (.inr (.inr (fun _ => none)))))), .inl (1, (100, .inl s_dO)), .inl (1, (100, .inl s_dT)), .inr (.inr 0), sc_8, sc_3, sc_2, sc_7, sc_9, sc_10, sc_11]
def sH_13 (L : Nat) (xs : Nat → Int32) : sx_H := [.inl (0, (L, .inl xs)), .inl (4, (0, .inr (.inr (.inr (.inr (fun _ => none)))))), .inl (1, (100, .inl s_dO)), .inl (1, (100, .inl s_dT)), .inr (.inr 0), sc_8, sc_3, sc_2, sc_7, sc_9, sc_10, sc_11, sc_6]
def sH_14 (L : Nat) (xs : Nat → Int32) : sx_H := [.inl (0, (L, .inl xs)), .inl (4, (0, .inr (.inr (.inr (.inr (fun _ => none)))))), .inl (1, (100, .inl s_dO)), .inl (1, (100, .inl s_dT)), .inr (.inr 0), sc_8, sc_3, sc_2, sc_7, sc_9, sc_10, sc_11, sc_7]
def sc_12 : sx_C := .inr (.inl (4, [.ref 12, .int 0, .int 0]))
def sH_15 (L : Nat) (xs : Nat → Int32) : sx_H := [.inl (0, (L, .inl xs)), .inl (4, (0, .inr (.inr (.inr (.inr (fun _ => none)))))), .inl (1, (100, .inl s_dO)), .inl (1, (100, .inl s_dT)), .inr (.inr 0), sc_8, sc_3, sc_2, sc_7, sc_9, sc_10, sc_12, sc_7]
def sc_13 : sx_C := .inr (.inl (3, [.ref 11, .null, .null, .int 0, .null]))
def sH_16 (L : Nat) (xs : Nat → Int32) : sx_H := [.inl (0, (L, .inl xs)), .inl (4, (0, .inr (.inr (.inr (.inr (fun _ => none)))))), .inl (1, (100, .inl s_dO)), .inl (1, (100, .inl s_dT)), .inr (.inr 0), sc_8, sc_3, sc_2, sc_7, sc_9, sc_13, sc_12, sc_7]
def sc_14 : sx_C := .inr (.inl (5, [.null, .null, .int 0, .int 0, .null, .null]))
def sH_17 (L : Nat) (xs : Nat → Int32) : sx_H := [.inl (0, (L, .inl xs)), .inl (4, (0, .inr (.inr (.inr (.inr (fun _ => none)))))), .inl (1, (100, .inl s_dO)), .inl (1, (100, .inl s_dT)), .inr (.inr 0), sc_8, sc_3, sc_2, sc_7, sc_9, sc_13, sc_12, sc_7, sc_14]
def sc_15 : sx_C := .inl (6, (121, .inr (.inr (.inr (.inr (fun _ => none))))))
def sH_18 (L : Nat) (xs : Nat → Int32) : sx_H := [.inl (0, (L, .inl xs)), .inl (4, (0, .inr (.inr (.inr (.inr (fun _ => none)))))), .inl (1, (100, .inl s_dO)), .inl (1, (100, .inl s_dT)), .inr (.inr 0), sc_8, sc_3, sc_2, sc_7, sc_9, sc_13, sc_12, sc_7, sc_14, sc_15]
def sc_16 : sx_C := .inr (.inl (5, [.ref 14, .null, .int 0, .int 0, .null, .null]))
def sH_19 (L : Nat) (xs : Nat → Int32) : sx_H := [.inl (0, (L, .inl xs)), .inl (4, (0, .inr (.inr (.inr (.inr (fun _ => none)))))), .inl (1, (100, .inl s_dO)), .inl (1, (100, .inl s_dT)), .inr (.inr 0), sc_8, sc_3, sc_2, sc_7, sc_9, sc_13, sc_12, sc_7, sc_16, sc_15]
def sH_20 (L : Nat) (xs : Nat → Int32) : sx_H := [.inl (0, (L, .inl xs)), .inl (4, (0, .inr (.inr (.inr (.inr (fun _ => none)))))), .inl (1, (100, .inl s_dO)), .inl (1, (100, .inl s_dT)), .inr (.inr 0), sc_8, sc_3, sc_2, sc_7, sc_9, sc_13, sc_12, sc_7, sc_16, sc_15, sc_15]
def sc_17 : sx_C := .inr (.inl (5, [.ref 14, .ref 15, .int 0, .int 0, .null, .null]))
def sH_21 (L : Nat) (xs : Nat → Int32) : sx_H := [.inl (0, (L, .inl xs)), .inl (4, (0, .inr (.inr (.inr (.inr (fun _ => none)))))), .inl (1, (100, .inl s_dO)), .inl (1, (100, .inl s_dT)), .inr (.inr 0), sc_8, sc_3, sc_2, sc_7, sc_9, sc_13, sc_12, sc_7, sc_17, sc_15, sc_15]
def sc_18 : sx_C := .inr (.inl (3, [.ref 11, .ref 13, .null, .int 0, .null]))
def sH_22 (L : Nat) (xs : Nat → Int32) : sx_H := [.inl (0, (L, .inl xs)), .inl (4, (0, .inr (.inr (.inr (.inr (fun _ => none)))))), .inl (1, (100, .inl s_dO)), .inl (1, (100, .inl s_dT)), .inr (.inr 0), sc_8, sc_3, sc_2, sc_7, sc_9, sc_18, sc_12, sc_7, sc_17, sc_15, sc_15]
def sc_19 : sx_C := .inl (6, (26, .inr (.inr (.inr (.inr (fun _ => none))))))
def sH_23 (L : Nat) (xs : Nat → Int32) : sx_H := [.inl (0, (L, .inl xs)), .inl (4, (0, .inr (.inr (.inr (.inr (fun _ => none)))))), .inl (1, (100, .inl s_dO)), .inl (1, (100, .inl s_dT)), .inr (.inr 0), sc_8, sc_3, sc_2, sc_7, sc_9, sc_18, sc_12, sc_7, sc_17, sc_15, sc_15, sc_19]
def sc_20 : sx_C := .inr (.inl (3, [.ref 11, .ref 13, .ref 16, .int 0, .null]))
def sH_24 (L : Nat) (xs : Nat → Int32) : sx_H := [.inl (0, (L, .inl xs)), .inl (4, (0, .inr (.inr (.inr (.inr (fun _ => none)))))), .inl (1, (100, .inl s_dO)), .inl (1, (100, .inl s_dT)), .inr (.inr 0), sc_8, sc_3, sc_2, sc_7, sc_9, sc_20, sc_12, sc_7, sc_17, sc_15, sc_15, sc_19]
def sc_21 : sx_C := .inr (.inl (2, [.ref 10, .null, .null, .null, .null, .int 0, .int 0, .int 0]))
def sH_25 (L : Nat) (xs : Nat → Int32) : sx_H := [.inl (0, (L, .inl xs)), .inl (4, (0, .inr (.inr (.inr (.inr (fun _ => none)))))), .inl (1, (100, .inl s_dO)), .inl (1, (100, .inl s_dT)), .inr (.inr 0), sc_8, sc_3, sc_2, sc_7, sc_21, sc_20, sc_12, sc_7, sc_17, sc_15, sc_15, sc_19]
def sc_22 : sx_C := .inl (5, (4, .inr (.inr (.inr (.inr (fun _ => none))))))
def sH_26 (L : Nat) (xs : Nat → Int32) : sx_H := [.inl (0, (L, .inl xs)), .inl (4, (0, .inr (.inr (.inr (.inr (fun _ => none)))))), .inl (1, (100, .inl s_dO)), .inl (1, (100, .inl s_dT)), .inr (.inr 0), sc_8, sc_3, sc_2, sc_7, sc_21, sc_20, sc_12, sc_7, sc_17, sc_15, sc_15, sc_19, sc_22]
def sc_23 : sx_C := .inr (.inl (2, [.ref 10, .ref 17, .null, .null, .null, .int 0, .int 0, .int 0]))
def sH_27 (L : Nat) (xs : Nat → Int32) : sx_H := [.inl (0, (L, .inl xs)), .inl (4, (0, .inr (.inr (.inr (.inr (fun _ => none)))))), .inl (1, (100, .inl s_dO)), .inl (1, (100, .inl s_dT)), .inr (.inr 0), sc_8, sc_3, sc_2, sc_7, sc_23, sc_20, sc_12, sc_7, sc_17, sc_15, sc_15, sc_19, sc_22]
def sc_24 : sx_C := .inr (.inl (6, [.null, .int 0]))
def sH_28 (L : Nat) (xs : Nat → Int32) : sx_H := [.inl (0, (L, .inl xs)), .inl (4, (0, .inr (.inr (.inr (.inr (fun _ => none)))))), .inl (1, (100, .inl s_dO)), .inl (1, (100, .inl s_dT)), .inr (.inr 0), sc_8, sc_3, sc_2, sc_7, sc_23, sc_20, sc_12, sc_7, sc_17, sc_15, sc_15, sc_19, sc_22, sc_24]
def sc_25 : sx_C := .inl (7, (61, .inr (.inr (.inr (.inr (fun _ => none))))))
def sH_29 (L : Nat) (xs : Nat → Int32) : sx_H := [.inl (0, (L, .inl xs)), .inl (4, (0, .inr (.inr (.inr (.inr (fun _ => none)))))), .inl (1, (100, .inl s_dO)), .inl (1, (100, .inl s_dT)), .inr (.inr 0), sc_8, sc_3, sc_2, sc_7, sc_23, sc_20, sc_12, sc_7, sc_17, sc_15, sc_15, sc_19, sc_22, sc_24, sc_25]
def sc_26 : sx_C := .inr (.inl (6, [.ref 19, .int 0]))
def sH_30 (L : Nat) (xs : Nat → Int32) : sx_H := [.inl (0, (L, .inl xs)), .inl (4, (0, .inr (.inr (.inr (.inr (fun _ => none)))))), .inl (1, (100, .inl s_dO)), .inl (1, (100, .inl s_dT)), .inr (.inr 0), sc_8, sc_3, sc_2, sc_7, sc_23, sc_20, sc_12, sc_7, sc_17, sc_15, sc_15, sc_19, sc_22, sc_26, sc_25]
def sc_27 : sx_C := .inr (.inl (2, [.ref 10, .ref 17, .ref 18, .null, .null, .int 0, .int 0, .int 0]))
def sH_31 (L : Nat) (xs : Nat → Int32) : sx_H := [.inl (0, (L, .inl xs)), .inl (4, (0, .inr (.inr (.inr (.inr (fun _ => none)))))), .inl (1, (100, .inl s_dO)), .inl (1, (100, .inl s_dT)), .inr (.inr 0), sc_8, sc_3, sc_2, sc_7, sc_27, sc_20, sc_12, sc_7, sc_17, sc_15, sc_15, sc_19, sc_22, sc_26, sc_25]
def sH_32 (L : Nat) (xs : Nat → Int32) : sx_H := [.inl (0, (L, .inl xs)), .inl (4, (0, .inr (.inr (.inr (.inr (fun _ => none)))))), .inl (1, (100, .inl s_dO)), .inl (1, (100, .inl s_dT)), .inr (.inr 0), sc_8, sc_3, sc_2, sc_7, sc_27, sc_20, sc_12, sc_7, sc_17, sc_15, sc_15, sc_19, sc_22, sc_26, sc_25, sc_24]
def sH_33 (L : Nat) (xs : Nat → Int32) : sx_H := [.inl (0, (L, .inl xs)), .inl (4, (0, .inr (.inr (.inr (.inr (fun _ => none)))))), .inl (1, (100, .inl s_dO)), .inl (1, (100, .inl s_dT)), .inr (.inr 0), sc_8, sc_3, sc_2, sc_7, sc_27, sc_20, sc_12, sc_7, sc_17, sc_15, sc_15, sc_19, sc_22, sc_26, sc_25, sc_24, sc_25]
def sc_28 : sx_C := .inr (.inl (6, [.ref 21, .int 0]))
def sH_34 (L : Nat) (xs : Nat → Int32) : sx_H := [.inl (0, (L, .inl xs)), .inl (4, (0, .inr (.inr (.inr (.inr (fun _ => none)))))), .inl (1, (100, .inl s_dO)), .inl (1, (100, .inl s_dT)), .inr (.inr 0), sc_8, sc_3, sc_2, sc_7, sc_27, sc_20, sc_12, sc_7, sc_17, sc_15, sc_15, sc_19, sc_22, sc_26, sc_25, sc_28, sc_25]
def sc_29 : sx_C := .inr (.inl (2, [.ref 10, .ref 17, .ref 18, .ref 20, .null, .int 0, .int 0, .int 0]))
def sH_35 (L : Nat) (xs : Nat → Int32) : sx_H := [.inl (0, (L, .inl xs)), .inl (4, (0, .inr (.inr (.inr (.inr (fun _ => none)))))), .inl (1, (100, .inl s_dO)), .inl (1, (100, .inl s_dT)), .inr (.inr 0), sc_8, sc_3, sc_2, sc_7, sc_29, sc_20, sc_12, sc_7, sc_17, sc_15, sc_15, sc_19, sc_22, sc_26, sc_25, sc_28, sc_25]
def sH_36 (L : Nat) (xs : Nat → Int32) : sx_H := [.inl (0, (L, .inl xs)), .inl (4, (0, .inr (.inr (.inr (.inr (fun _ => none)))))), .inl (1, (100, .inl s_dO)), .inl (1, (100, .inl s_dT)), .inr (.inr 0), sc_8, sc_3, sc_2, sc_7, sc_29, sc_20, sc_12, sc_7, sc_17, sc_15, sc_15, sc_19, sc_22, sc_26, sc_25, sc_28, sc_25, sc_19]
def sc_30 : sx_C := .inr (.inl (2, [.ref 10, .ref 17, .ref 18, .ref 20, .ref 22, .int 0, .int 0, .int 0]))
def sH_37 (L : Nat) (xs : Nat → Int32) : sx_H := [.inl (0, (L, .inl xs)), .inl (4, (0, .inr (.inr (.inr (.inr (fun _ => none)))))), .inl (1, (100, .inl s_dO)), .inl (1, (100, .inl s_dT)), .inr (.inr 0), sc_8, sc_3, sc_2, sc_7, sc_30, sc_20, sc_12, sc_7, sc_17, sc_15, sc_15, sc_19, sc_22, sc_26, sc_25, sc_28, sc_25, sc_19]
def sH_38 (L : Nat) (xs : Nat → Int32) : sx_H := [.inl (0, (L, .inl xs)), .inl (4, (0, .inr (.inr (.inr (.inr (fun _ => none)))))), .inl (1, (100, .inl s_dO)), .inl (1, (100, .inl s_dT)), .inr (.inr 0), sc_8, sc_3, sc_2, sc_7, sc_30, sc_20, sc_12, sc_7, sc_17, sc_15, sc_15, sc_19, sc_22, sc_26, sc_25, sc_28, sc_25, sc_19, sc_24]
def sH_39 (L : Nat) (xs : Nat → Int32) : sx_H := [.inl (0, (L, .inl xs)), .inl (4, (0, .inr (.inr (.inr (.inr (fun _ => none)))))), .inl (1, (100, .inl s_dO)), .inl (1, (100, .inl s_dT)), .inr (.inr 0), sc_8, sc_3, sc_2, sc_7, sc_30, sc_20, sc_12, sc_7, sc_17, sc_15, sc_15, sc_19, sc_22, sc_26, sc_25, sc_28, sc_25, sc_19, sc_24, sc_25]
def sc_31 : sx_C := .inr (.inl (6, [.ref 24, .int 0]))
def sH_40 (L : Nat) (xs : Nat → Int32) : sx_H := [.inl (0, (L, .inl xs)), .inl (4, (0, .inr (.inr (.inr (.inr (fun _ => none)))))), .inl (1, (100, .inl s_dO)), .inl (1, (100, .inl s_dT)), .inr (.inr 0), sc_8, sc_3, sc_2, sc_7, sc_30, sc_20, sc_12, sc_7, sc_17, sc_15, sc_15, sc_19, sc_22, sc_26, sc_25, sc_28, sc_25, sc_19, sc_31, sc_25]
def sc_32 : sx_C := .inl (5, (4, .inr (.inr (.inr (.inr (va_up (fun _ => none) 0 (some 23)))))))
def sH_41 (L : Nat) (xs : Nat → Int32) : sx_H := [.inl (0, (L, .inl xs)), .inl (4, (0, .inr (.inr (.inr (.inr (fun _ => none)))))), .inl (1, (100, .inl s_dO)), .inl (1, (100, .inl s_dT)), .inr (.inr 0), sc_8, sc_3, sc_2, sc_7, sc_30, sc_20, sc_12, sc_7, sc_17, sc_15, sc_15, sc_19, sc_32, sc_26, sc_25, sc_28, sc_25, sc_19, sc_31, sc_25]
def sH_42 (L : Nat) (xs : Nat → Int32) : sx_H := [.inl (0, (L, .inl xs)), .inl (4, (0, .inr (.inr (.inr (.inr (fun _ => none)))))), .inl (1, (100, .inl s_dO)), .inl (1, (100, .inl s_dT)), .inr (.inr 0), sc_8, sc_3, sc_2, sc_7, sc_30, sc_20, sc_12, sc_7, sc_17, sc_15, sc_15, sc_19, sc_32, sc_26, sc_25, sc_28, sc_25, sc_19, sc_31, sc_25, sc_24]
def sH_43 (L : Nat) (xs : Nat → Int32) : sx_H := [.inl (0, (L, .inl xs)), .inl (4, (0, .inr (.inr (.inr (.inr (fun _ => none)))))), .inl (1, (100, .inl s_dO)), .inl (1, (100, .inl s_dT)), .inr (.inr 0), sc_8, sc_3, sc_2, sc_7, sc_30, sc_20, sc_12, sc_7, sc_17, sc_15, sc_15, sc_19, sc_32, sc_26, sc_25, sc_28, sc_25, sc_19, sc_31, sc_25, sc_24, sc_25]
def sc_33 : sx_C := .inr (.inl (6, [.ref 26, .int 0]))
def sH_44 (L : Nat) (xs : Nat → Int32) : sx_H := [.inl (0, (L, .inl xs)), .inl (4, (0, .inr (.inr (.inr (.inr (fun _ => none)))))), .inl (1, (100, .inl s_dO)), .inl (1, (100, .inl s_dT)), .inr (.inr 0), sc_8, sc_3, sc_2, sc_7, sc_30, sc_20, sc_12, sc_7, sc_17, sc_15, sc_15, sc_19, sc_32, sc_26, sc_25, sc_28, sc_25, sc_19, sc_31, sc_25, sc_33, sc_25]
def sc_34 : sx_C := .inl (5, (4, .inr (.inr (.inr (.inr (va_up (va_up (fun _ => none) 0 (some 23)) 1 (some 25)))))))
def sH_45 (L : Nat) (xs : Nat → Int32) : sx_H := [.inl (0, (L, .inl xs)), .inl (4, (0, .inr (.inr (.inr (.inr (fun _ => none)))))), .inl (1, (100, .inl s_dO)), .inl (1, (100, .inl s_dT)), .inr (.inr 0), sc_8, sc_3, sc_2, sc_7, sc_30, sc_20, sc_12, sc_7, sc_17, sc_15, sc_15, sc_19, sc_34, sc_26, sc_25, sc_28, sc_25, sc_19, sc_31, sc_25, sc_33, sc_25]
def sH_46 (L : Nat) (xs : Nat → Int32) : sx_H := [.inl (0, (L, .inl xs)), .inl (4, (0, .inr (.inr (.inr (.inr (fun _ => none)))))), .inl (1, (100, .inl s_dO)), .inl (1, (100, .inl s_dT)), .inr (.inr 0), sc_8, sc_3, sc_2, sc_7, sc_30, sc_20, sc_12, sc_7, sc_17, sc_15, sc_15, sc_19, sc_34, sc_26, sc_25, sc_28, sc_25, sc_19, sc_31, sc_25, sc_33, sc_25, sc_24]
def sH_47 (L : Nat) (xs : Nat → Int32) : sx_H := [.inl (0, (L, .inl xs)), .inl (4, (0, .inr (.inr (.inr (.inr (fun _ => none)))))), .inl (1, (100, .inl s_dO)), .inl (1, (100, .inl s_dT)), .inr (.inr 0), sc_8, sc_3, sc_2, sc_7, sc_30, sc_20, sc_12, sc_7, sc_17, sc_15, sc_15, sc_19, sc_34, sc_26, sc_25, sc_28, sc_25, sc_19, sc_31, sc_25, sc_33, sc_25, sc_24, sc_25]
def sc_35 : sx_C := .inr (.inl (6, [.ref 28, .int 0]))
def sH_48 (L : Nat) (xs : Nat → Int32) : sx_H := [.inl (0, (L, .inl xs)), .inl (4, (0, .inr (.inr (.inr (.inr (fun _ => none)))))), .inl (1, (100, .inl s_dO)), .inl (1, (100, .inl s_dT)), .inr (.inr 0), sc_8, sc_3, sc_2, sc_7, sc_30, sc_20, sc_12, sc_7, sc_17, sc_15, sc_15, sc_19, sc_34, sc_26, sc_25, sc_28, sc_25, sc_19, sc_31, sc_25, sc_33, sc_25, sc_35, sc_25]
def sc_36 : sx_C := .inl (5, (4, .inr (.inr (.inr (.inr (va_up (va_up (va_up (fun _ => none) 0 (some 23)) 1 (some 25)) 2 (some 27)))))))
def sH_49 (L : Nat) (xs : Nat → Int32) : sx_H := [.inl (0, (L, .inl xs)), .inl (4, (0, .inr (.inr (.inr (.inr (fun _ => none)))))), .inl (1, (100, .inl s_dO)), .inl (1, (100, .inl s_dT)), .inr (.inr 0), sc_8, sc_3, sc_2, sc_7, sc_30, sc_20, sc_12, sc_7, sc_17, sc_15, sc_15, sc_19, sc_36, sc_26, sc_25, sc_28, sc_25, sc_19, sc_31, sc_25, sc_33, sc_25, sc_35, sc_25]
def sH_50 (L : Nat) (xs : Nat → Int32) : sx_H := [.inl (0, (L, .inl xs)), .inl (4, (0, .inr (.inr (.inr (.inr (fun _ => none)))))), .inl (1, (100, .inl s_dO)), .inl (1, (100, .inl s_dT)), .inr (.inr 0), sc_8, sc_3, sc_2, sc_7, sc_30, sc_20, sc_12, sc_7, sc_17, sc_15, sc_15, sc_19, sc_36, sc_26, sc_25, sc_28, sc_25, sc_19, sc_31, sc_25, sc_33, sc_25, sc_35, sc_25, sc_24]
def sH_51 (L : Nat) (xs : Nat → Int32) : sx_H := [.inl (0, (L, .inl xs)), .inl (4, (0, .inr (.inr (.inr (.inr (fun _ => none)))))), .inl (1, (100, .inl s_dO)), .inl (1, (100, .inl s_dT)), .inr (.inr 0), sc_8, sc_3, sc_2, sc_7, sc_30, sc_20, sc_12, sc_7, sc_17, sc_15, sc_15, sc_19, sc_36, sc_26, sc_25, sc_28, sc_25, sc_19, sc_31, sc_25, sc_33, sc_25, sc_35, sc_25, sc_24, sc_25]
def sc_37 : sx_C := .inr (.inl (6, [.ref 30, .int 0]))
def sH_52 (L : Nat) (xs : Nat → Int32) : sx_H := [.inl (0, (L, .inl xs)), .inl (4, (0, .inr (.inr (.inr (.inr (fun _ => none)))))), .inl (1, (100, .inl s_dO)), .inl (1, (100, .inl s_dT)), .inr (.inr 0), sc_8, sc_3, sc_2, sc_7, sc_30, sc_20, sc_12, sc_7, sc_17, sc_15, sc_15, sc_19, sc_36, sc_26, sc_25, sc_28, sc_25, sc_19, sc_31, sc_25, sc_33, sc_25, sc_35, sc_25, sc_37, sc_25]
def sc_38 : sx_C := .inl (5, (4, .inr (.inr (.inr (.inr (va_up (va_up (va_up (va_up (fun _ => none) 0 (some 23)) 1 (some 25)) 2 (some 27)) 3 (some 29)))))))
def sH_53 (L : Nat) (xs : Nat → Int32) : sx_H := [.inl (0, (L, .inl xs)), .inl (4, (0, .inr (.inr (.inr (.inr (fun _ => none)))))), .inl (1, (100, .inl s_dO)), .inl (1, (100, .inl s_dT)), .inr (.inr 0), sc_8, sc_3, sc_2, sc_7, sc_30, sc_20, sc_12, sc_7, sc_17, sc_15, sc_15, sc_19, sc_38, sc_26, sc_25, sc_28, sc_25, sc_19, sc_31, sc_25, sc_33, sc_25, sc_35, sc_25, sc_37, sc_25]
def sc_39 : sx_C := .inr (.inl (0, [.ref 6, .int (-1), .ref 8, .ref 9, .null]))
def sH_54 (L : Nat) (xs : Nat → Int32) : sx_H := [.inl (0, (L, .inl xs)), .inl (4, (0, .inr (.inr (.inr (.inr (fun _ => none)))))), .inl (1, (100, .inl s_dO)), .inl (1, (100, .inl s_dT)), .inr (.inr 0), sc_39, sc_3, sc_2, sc_7, sc_30, sc_20, sc_12, sc_7, sc_17, sc_15, sc_15, sc_19, sc_38, sc_26, sc_25, sc_28, sc_25, sc_19, sc_31, sc_25, sc_33, sc_25, sc_35, sc_25, sc_37, sc_25]
def sc_40 : sx_C := .inr (.inl (14, [.null, .int 0, .int 0, .int 0]))
def sH_55 (L : Nat) (xs : Nat → Int32) : sx_H := [.inl (0, (L, .inl xs)), .inl (4, (0, .inr (.inr (.inr (.inr (fun _ => none)))))), .inl (1, (100, .inl s_dO)), .inl (1, (100, .inl s_dT)), .inr (.inr 0), sc_39, sc_3, sc_2, sc_7, sc_30, sc_20, sc_12, sc_7, sc_17, sc_15, sc_15, sc_19, sc_38, sc_26, sc_25, sc_28, sc_25, sc_19, sc_31, sc_25, sc_33, sc_25, sc_35, sc_25, sc_37, sc_25, sc_40]
def sc_41 : sx_C := .inl (1, (16, .inl (fun _ => 0)))
def sH_56 (L : Nat) (xs : Nat → Int32) : sx_H := [.inl (0, (L, .inl xs)), .inl (4, (0, .inr (.inr (.inr (.inr (fun _ => none)))))), .inl (1, (100, .inl s_dO)), .inl (1, (100, .inl s_dT)), .inr (.inr 0), sc_39, sc_3, sc_2, sc_7, sc_30, sc_20, sc_12, sc_7, sc_17, sc_15, sc_15, sc_19, sc_38, sc_26, sc_25, sc_28, sc_25, sc_19, sc_31, sc_25, sc_33, sc_25, sc_35, sc_25, sc_37, sc_25, sc_40, sc_41]
def sc_42 : sx_C := .inr (.inl (14, [.ref 32, .int 0, .int 0, .int 0]))
def sH_57 (L : Nat) (xs : Nat → Int32) : sx_H := [.inl (0, (L, .inl xs)), .inl (4, (0, .inr (.inr (.inr (.inr (fun _ => none)))))), .inl (1, (100, .inl s_dO)), .inl (1, (100, .inl s_dT)), .inr (.inr 0), sc_39, sc_3, sc_2, sc_7, sc_30, sc_20, sc_12, sc_7, sc_17, sc_15, sc_15, sc_19, sc_38, sc_26, sc_25, sc_28, sc_25, sc_19, sc_31, sc_25, sc_33, sc_25, sc_35, sc_25, sc_37, sc_25, sc_42, sc_41]
def sc_43 : sx_C := .inr (.inl (0, [.ref 6, .int (-1), .ref 8, .ref 9, .ref 31]))
def sH_58 (L : Nat) (xs : Nat → Int32) : sx_H := [.inl (0, (L, .inl xs)), .inl (4, (0, .inr (.inr (.inr (.inr (fun _ => none)))))), .inl (1, (100, .inl s_dO)), .inl (1, (100, .inl s_dT)), .inr (.inr 0), sc_43, sc_3, sc_2, sc_7, sc_30, sc_20, sc_12, sc_7, sc_17, sc_15, sc_15, sc_19, sc_38, sc_26, sc_25, sc_28, sc_25, sc_19, sc_31, sc_25, sc_33, sc_25, sc_35, sc_25, sc_37, sc_25, sc_42, sc_41]
def sc_44 : sx_C := .inr (.inl (12, [.null, .null, .null, .null, .null, .null, .null, .int 0, .int 0, .int 0, .int 0, .int 0, .int 0, .int 0, .null, .null, .null, .null, .null, .null, .null, .null, .null, .null, .null, .null, .null, .null, .null, .null, .null, .null, .null, .null, .null, .null, .null, .int 0, .int 0, .int 0, .int 0, .int 0, .int 0, .int 0, .int 0, .int 0, .int 0]))
def sH_59 (L : Nat) (xs : Nat → Int32) : sx_H := [.inl (0, (L, .inl xs)), .inl (4, (0, .inr (.inr (.inr (.inr (fun _ => none)))))), .inl (1, (100, .inl s_dO)), .inl (1, (100, .inl s_dT)), .inr (.inr 0), sc_43, sc_3, sc_2, sc_7, sc_30, sc_20, sc_12, sc_7, sc_17, sc_15, sc_15, sc_19, sc_38, sc_26, sc_25, sc_28, sc_25, sc_19, sc_31, sc_25, sc_33, sc_25, sc_35, sc_25, sc_37, sc_25, sc_42, sc_41, sc_44]
def sc_45 : sx_C := .inl (0, (48, .inl (fun _ => 0)))
def sH_60 (L : Nat) (xs : Nat → Int32) : sx_H := [.inl (0, (L, .inl xs)), .inl (4, (0, .inr (.inr (.inr (.inr (fun _ => none)))))), .inl (1, (100, .inl s_dO)), .inl (1, (100, .inl s_dT)), .inr (.inr 0), sc_43, sc_3, sc_2, sc_7, sc_30, sc_20, sc_12, sc_7, sc_17, sc_15, sc_15, sc_19, sc_38, sc_26, sc_25, sc_28, sc_25, sc_19, sc_31, sc_25, sc_33, sc_25, sc_35, sc_25, sc_37, sc_25, sc_42, sc_41, sc_44, sc_45]
def sc_46 : sx_C := .inr (.inl (12, [.ref 34, .null, .null, .null, .null, .null, .null, .int 0, .int 0, .int 0, .int 0, .int 0, .int 0, .int 0, .null, .null, .null, .null, .null, .null, .null, .null, .null, .null, .null, .null, .null, .null, .null, .null, .null, .null, .null, .null, .null, .null, .null, .int 0, .int 0, .int 0, .int 0, .int 0, .int 0, .int 0, .int 0, .int 0, .int 0]))
def sH_61 (L : Nat) (xs : Nat → Int32) : sx_H := [.inl (0, (L, .inl xs)), .inl (4, (0, .inr (.inr (.inr (.inr (fun _ => none)))))), .inl (1, (100, .inl s_dO)), .inl (1, (100, .inl s_dT)), .inr (.inr 0), sc_43, sc_3, sc_2, sc_7, sc_30, sc_20, sc_12, sc_7, sc_17, sc_15, sc_15, sc_19, sc_38, sc_26, sc_25, sc_28, sc_25, sc_19, sc_31, sc_25, sc_33, sc_25, sc_35, sc_25, sc_37, sc_25, sc_42, sc_41, sc_46, sc_45]
def sc_47 : sx_C := .inl (0, (624, .inl (fun _ => 0)))
def sH_62 (L : Nat) (xs : Nat → Int32) : sx_H := [.inl (0, (L, .inl xs)), .inl (4, (0, .inr (.inr (.inr (.inr (fun _ => none)))))), .inl (1, (100, .inl s_dO)), .inl (1, (100, .inl s_dT)), .inr (.inr 0), sc_43, sc_3, sc_2, sc_7, sc_30, sc_20, sc_12, sc_7, sc_17, sc_15, sc_15, sc_19, sc_38, sc_26, sc_25, sc_28, sc_25, sc_19, sc_31, sc_25, sc_33, sc_25, sc_35, sc_25, sc_37, sc_25, sc_42, sc_41, sc_46, sc_45, sc_47]
def sc_48 : sx_C := .inr (.inl (12, [.ref 34, .ref 35, .null, .null, .null, .null, .null, .int 0, .int 0, .int 0, .int 0, .int 0, .int 0, .int 0, .null, .null, .null, .null, .null, .null, .null, .null, .null, .null, .null, .null, .null, .null, .null, .null, .null, .null, .null, .null, .null, .null, .null, .int 0, .int 0, .int 0, .int 0, .int 0, .int 0, .int 0, .int 0, .int 0, .int 0]))
def sH_63 (L : Nat) (xs : Nat → Int32) : sx_H := [.inl (0, (L, .inl xs)), .inl (4, (0, .inr (.inr (.inr (.inr (fun _ => none)))))), .inl (1, (100, .inl s_dO)), .inl (1, (100, .inl s_dT)), .inr (.inr 0), sc_43, sc_3, sc_2, sc_7, sc_30, sc_20, sc_12, sc_7, sc_17, sc_15, sc_15, sc_19, sc_38, sc_26, sc_25, sc_28, sc_25, sc_19, sc_31, sc_25, sc_33, sc_25, sc_35, sc_25, sc_37, sc_25, sc_42, sc_41, sc_48, sc_45, sc_47]
def sc_49 : sx_C := .inl (0, (12, .inl (fun _ => 0)))
def sH_64 (L : Nat) (xs : Nat → Int32) : sx_H := [.inl (0, (L, .inl xs)), .inl (4, (0, .inr (.inr (.inr (.inr (fun _ => none)))))), .inl (1, (100, .inl s_dO)), .inl (1, (100, .inl s_dT)), .inr (.inr 0), sc_43, sc_3, sc_2, sc_7, sc_30, sc_20, sc_12, sc_7, sc_17, sc_15, sc_15, sc_19, sc_38, sc_26, sc_25, sc_28, sc_25, sc_19, sc_31, sc_25, sc_33, sc_25, sc_35, sc_25, sc_37, sc_25, sc_42, sc_41, sc_48, sc_45, sc_47, sc_49]
def sc_50 : sx_C := .inr (.inl (12, [.ref 34, .ref 35, .ref 36, .null, .null, .null, .null, .int 0, .int 0, .int 0, .int 0, .int 0, .int 0, .int 0, .null, .null, .null, .null, .null, .null, .null, .null, .null, .null, .null, .null, .null, .null, .null, .null, .null, .null, .null, .null, .null, .null, .null, .int 0, .int 0, .int 0, .int 0, .int 0, .int 0, .int 0, .int 0, .int 0, .int 0]))
def sH_65 (L : Nat) (xs : Nat → Int32) : sx_H := [.inl (0, (L, .inl xs)), .inl (4, (0, .inr (.inr (.inr (.inr (fun _ => none)))))), .inl (1, (100, .inl s_dO)), .inl (1, (100, .inl s_dT)), .inr (.inr 0), sc_43, sc_3, sc_2, sc_7, sc_30, sc_20, sc_12, sc_7, sc_17, sc_15, sc_15, sc_19, sc_38, sc_26, sc_25, sc_28, sc_25, sc_19, sc_31, sc_25, sc_33, sc_25, sc_35, sc_25, sc_37, sc_25, sc_42, sc_41, sc_50, sc_45, sc_47, sc_49]
def sc_51 : sx_C := .inl (0, (8, .inl (fun _ => 0)))
def sH_66 (L : Nat) (xs : Nat → Int32) : sx_H := [.inl (0, (L, .inl xs)), .inl (4, (0, .inr (.inr (.inr (.inr (fun _ => none)))))), .inl (1, (100, .inl s_dO)), .inl (1, (100, .inl s_dT)), .inr (.inr 0), sc_43, sc_3, sc_2, sc_7, sc_30, sc_20, sc_12, sc_7, sc_17, sc_15, sc_15, sc_19, sc_38, sc_26, sc_25, sc_28, sc_25, sc_19, sc_31, sc_25, sc_33, sc_25, sc_35, sc_25, sc_37, sc_25, sc_42, sc_41, sc_50, sc_45, sc_47, sc_49, sc_51]
def sc_52 : sx_C := .inr (.inl (12, [.ref 34, .ref 35, .ref 36, .ref 37, .null, .null, .null, .int 0, .int 0, .int 0, .int 0, .int 0, .int 0, .int 0, .null, .null, .null, .null, .null, .null, .null, .null, .null, .null, .null, .null, .null, .null, .null, .null, .null, .null, .null, .null, .null, .null, .null, .int 0, .int 0, .int 0, .int 0, .int 0, .int 0, .int 0, .int 0, .int 0, .int 0]))
def sH_67 (L : Nat) (xs : Nat → Int32) : sx_H := [.inl (0, (L, .inl xs)), .inl (4, (0, .inr (.inr (.inr (.inr (fun _ => none)))))), .inl (1, (100, .inl s_dO)), .inl (1, (100, .inl s_dT)), .inr (.inr 0), sc_43, sc_3, sc_2, sc_7, sc_30, sc_20, sc_12, sc_7, sc_17, sc_15, sc_15, sc_19, sc_38, sc_26, sc_25, sc_28, sc_25, sc_19, sc_31, sc_25, sc_33, sc_25, sc_35, sc_25, sc_37, sc_25, sc_42, sc_41, sc_52, sc_45, sc_47, sc_49, sc_51]
def sH_68 (L : Nat) (xs : Nat → Int32) : sx_H := [.inl (0, (L, .inl xs)), .inl (4, (0, .inr (.inr (.inr (.inr (fun _ => none)))))), .inl (1, (100, .inl s_dO)), .inl (1, (100, .inl s_dT)), .inr (.inr 0), sc_43, sc_3, sc_2, sc_7, sc_30, sc_20, sc_12, sc_7, sc_17, sc_15, sc_15, sc_19, sc_38, sc_26, sc_25, sc_28, sc_25, sc_19, sc_31, sc_25, sc_33, sc_25, sc_35, sc_25, sc_37, sc_25, sc_42, sc_41, sc_52, sc_45, sc_47, sc_49, sc_51, sc_51]
def sc_53 : sx_C := .inr (.inl (12, [.ref 34, .ref 35, .ref 36, .ref 37, .ref 38, .null, .null, .int 0, .int 0, .int 0, .int 0, .int 0, .int 0, .int 0, .null, .null, .null, .null, .null, .null, .null, .null, .null, .null, .null, .null, .null, .null, .null, .null, .null, .null, .null, .null, .null, .null, .null, .int 0, .int 0, .int 0, .int 0, .int 0, .int 0, .int 0, .int 0, .int 0, .int 0]))
def sH_69 (L : Nat) (xs : Nat → Int32) : sx_H := [.inl (0, (L, .inl xs)), .inl (4, (0, .inr (.inr (.inr (.inr (fun _ => none)))))), .inl (1, (100, .inl s_dO)), .inl (1, (100, .inl s_dT)), .inr (.inr 0), sc_43, sc_3, sc_2, sc_7, sc_30, sc_20, sc_12, sc_7, sc_17, sc_15, sc_15, sc_19, sc_38, sc_26, sc_25, sc_28, sc_25, sc_19, sc_31, sc_25, sc_33, sc_25, sc_35, sc_25, sc_37, sc_25, sc_42, sc_41, sc_53, sc_45, sc_47, sc_49, sc_51, sc_51]
def sc_54 : sx_C := .inl (0, (26, .inl (fun _ => 0)))
def sH_70 (L : Nat) (xs : Nat → Int32) : sx_H := [.inl (0, (L, .inl xs)), .inl (4, (0, .inr (.inr (.inr (.inr (fun _ => none)))))), .inl (1, (100, .inl s_dO)), .inl (1, (100, .inl s_dT)), .inr (.inr 0), sc_43, sc_3, sc_2, sc_7, sc_30, sc_20, sc_12, sc_7, sc_17, sc_15, sc_15, sc_19, sc_38, sc_26, sc_25, sc_28, sc_25, sc_19, sc_31, sc_25, sc_33, sc_25, sc_35, sc_25, sc_37, sc_25, sc_42, sc_41, sc_53, sc_45, sc_47, sc_49, sc_51, sc_51, sc_54]
def sc_55 : sx_C := .inr (.inl (12, [.ref 34, .ref 35, .ref 36, .ref 37, .ref 38, .ref 39, .null, .int 0, .int 0, .int 0, .int 0, .int 0, .int 0, .int 0, .null, .null, .null, .null, .null, .null, .null, .null, .null, .null, .null, .null, .null, .null, .null, .null, .null, .null, .null, .null, .null, .null, .null, .int 0, .int 0, .int 0, .int 0, .int 0, .int 0, .int 0, .int 0, .int 0, .int 0]))
def sH_71 (L : Nat) (xs : Nat → Int32) : sx_H := [.inl (0, (L, .inl xs)), .inl (4, (0, .inr (.inr (.inr (.inr (fun _ => none)))))), .inl (1, (100, .inl s_dO)), .inl (1, (100, .inl s_dT)), .inr (.inr 0), sc_43, sc_3, sc_2, sc_7, sc_30, sc_20, sc_12, sc_7, sc_17, sc_15, sc_15, sc_19, sc_38, sc_26, sc_25, sc_28, sc_25, sc_19, sc_31, sc_25, sc_33, sc_25, sc_35, sc_25, sc_37, sc_25, sc_42, sc_41, sc_55, sc_45, sc_47, sc_49, sc_51, sc_51, sc_54]
def sH_72 (L : Nat) (xs : Nat → Int32) : sx_H := [.inl (0, (L, .inl xs)), .inl (4, (0, .inr (.inr (.inr (.inr (fun _ => none)))))), .inl (1, (100, .inl s_dO)), .inl (1, (100, .inl s_dT)), .inr (.inr 0), sc_43, sc_3, sc_2, sc_7, sc_30, sc_20, sc_12, sc_7, sc_17, sc_15, sc_15, sc_19, sc_38, sc_26, sc_25, sc_28, sc_25, sc_19, sc_31, sc_25, sc_33, sc_25, sc_35, sc_25, sc_37, sc_25, sc_42, sc_41, sc_55, sc_45, sc_47, sc_49, sc_51, sc_51, sc_54, sc_54]
def sc_56 : sx_C := .inr (.inl (12, [.ref 34, .ref 35, .ref 36, .ref 37, .ref 38, .ref 39, .ref 40, .int 0, .int 0, .int 0, .int 0, .int 0, .int 0, .int 0, .null, .null, .null, .null, .null, .null, .null, .null, .null, .null, .null, .null, .null, .null, .null, .null, .null, .null, .null, .null, .null, .null, .null, .int 0, .int 0, .int 0, .int 0, .int 0, .int 0, .int 0, .int 0, .int 0, .int 0]))
def sH_73 (L : Nat) (xs : Nat → Int32) : sx_H := [.inl (0, (L, .inl xs)), .inl (4, (0, .inr (.inr (.inr (.inr (fun _ => none)))))), .inl (1, (100, .inl s_dO)), .inl (1, (100, .inl s_dT)), .inr (.inr 0), sc_43, sc_3, sc_2, sc_7, sc_30, sc_20, sc_12, sc_7, sc_17, sc_15, sc_15, sc_19, sc_38, sc_26, sc_25, sc_28, sc_25, sc_19, sc_31, sc_25, sc_33, sc_25, sc_35, sc_25, sc_37, sc_25, sc_42, sc_41, sc_56, sc_45, sc_47, sc_49, sc_51, sc_51, sc_54, sc_54]
def sc_57 : sx_C := .inr (.inl (12, [.ref 34, .ref 35, .ref 36, .ref 37, .ref 38, .ref 39, .ref 40, .int 0, .int 0, .int (-1), .int 0, .int 0, .int 0, .int 0, .null, .null, .null, .null, .null, .null, .null, .null, .null, .null, .null, .null, .null, .null, .null, .null, .null, .null, .null, .null, .null, .null, .null, .int 0, .int 0, .int 0, .int 0, .int 0, .int 0, .int 0, .int 0, .int 0, .int 0]))
def sH_74 (L : Nat) (xs : Nat → Int32) : sx_H := [.inl (0, (L, .inl xs)), .inl (4, (0, .inr (.inr (.inr (.inr (fun _ => none)))))), .inl (1, (100, .inl s_dO)), .inl (1, (100, .inl s_dT)), .inr (.inr 0), sc_43, sc_3, sc_2, sc_7, sc_30, sc_20, sc_12, sc_7, sc_17, sc_15, sc_15, sc_19, sc_38, sc_26, sc_25, sc_28, sc_25, sc_19, sc_31, sc_25, sc_33, sc_25, sc_35, sc_25, sc_37, sc_25, sc_42, sc_41, sc_57, sc_45, sc_47, sc_49, sc_51, sc_51, sc_54, sc_54]
def sc_58 : sx_C := .inl (0, (26000, .inl (fun _ => 0)))
def sH_75 (L : Nat) (xs : Nat → Int32) : sx_H := [.inl (0, (L, .inl xs)), .inl (4, (0, .inr (.inr (.inr (.inr (fun _ => none)))))), .inl (1, (100, .inl s_dO)), .inl (1, (100, .inl s_dT)), .inr (.inr 0), sc_43, sc_3, sc_2, sc_7, sc_30, sc_20, sc_12, sc_7, sc_17, sc_15, sc_15, sc_19, sc_38, sc_26, sc_25, sc_28, sc_25, sc_19, sc_31, sc_25, sc_33, sc_25, sc_35, sc_25, sc_37, sc_25, sc_42, sc_41, sc_57, sc_45, sc_47, sc_49, sc_51, sc_51, sc_54, sc_54, sc_58]
def sc_59 : sx_C := .inr (.inl (12, [.ref 34, .ref 35, .ref 36, .ref 37, .ref 38, .ref 39, .ref 40, .int 0, .int 0, .int (-1), .int 0, .int 0, .int 0, .int 0, .ref 41, .null, .null, .null, .null, .null, .null, .null, .null, .null, .null, .null, .null, .null, .null, .null, .null, .null, .null, .null, .null, .null, .null, .int 0, .int 0, .int 0, .int 0, .int 0, .int 0, .int 0, .int 0, .int 0, .int 0]))
def sH_76 (L : Nat) (xs : Nat → Int32) : sx_H := [.inl (0, (L, .inl xs)), .inl (4, (0, .inr (.inr (.inr (.inr (fun _ => none)))))), .inl (1, (100, .inl s_dO)), .inl (1, (100, .inl s_dT)), .inr (.inr 0), sc_43, sc_3, sc_2, sc_7, sc_30, sc_20, sc_12, sc_7, sc_17, sc_15, sc_15, sc_19, sc_38, sc_26, sc_25, sc_28, sc_25, sc_19, sc_31, sc_25, sc_33, sc_25, sc_35, sc_25, sc_37, sc_25, sc_42, sc_41, sc_59, sc_45, sc_47, sc_49, sc_51, sc_51, sc_54, sc_54, sc_58]
def sH_77 (L : Nat) (xs : Nat → Int32) : sx_H := [.inl (0, (L, .inl xs)), .inl (4, (0, .inr (.inr (.inr (.inr (fun _ => none)))))), .inl (1, (100, .inl s_dO)), .inl (1, (100, .inl s_dT)), .inr (.inr 0), sc_43, sc_3, sc_2, sc_7, sc_30, sc_20, sc_12, sc_7, sc_17, sc_15, sc_15, sc_19, sc_38, sc_26, sc_25, sc_28, sc_25, sc_19, sc_31, sc_25, sc_33, sc_25, sc_35, sc_25, sc_37, sc_25, sc_42, sc_41, sc_59, sc_45, sc_47, sc_49, sc_51, sc_51, sc_54, sc_54, sc_58, sc_58]
def sc_60 : sx_C := .inr (.inl (12, [.ref 34, .ref 35, .ref 36, .ref 37, .ref 38, .ref 39, .ref 40, .int 0, .int 0, .int (-1), .int 0, .int 0, .int 0, .int 0, .ref 41, .ref 42, .null, .null, .null, .null, .null, .null, .null, .null, .null, .null, .null, .null, .null, .null, .null, .null, .null, .null, .null, .null, .null, .int 0, .int 0, .int 0, .int 0, .int 0, .int 0, .int 0, .int 0, .int 0, .int 0]))
def sH_78 (L : Nat) (xs : Nat → Int32) : sx_H := [.inl (0, (L, .inl xs)), .inl (4, (0, .inr (.inr (.inr (.inr (fun _ => none)))))), .inl (1, (100, .inl s_dO)), .inl (1, (100, .inl s_dT)), .inr (.inr 0), sc_43, sc_3, sc_2, sc_7, sc_30, sc_20, sc_12, sc_7, sc_17, sc_15, sc_15, sc_19, sc_38, sc_26, sc_25, sc_28, sc_25, sc_19, sc_31, sc_25, sc_33, sc_25, sc_35, sc_25, sc_37, sc_25, sc_42, sc_41, sc_60, sc_45, sc_47, sc_49, sc_51, sc_51, sc_54, sc_54, sc_58, sc_58]
def sc_61 : sx_C := .inl (0, (78000, .inl (fun _ => 0)))
def sH_79 (L : Nat) (xs : Nat → Int32) : sx_H := [.inl (0, (L, .inl xs)), .inl (4, (0, .inr (.inr (.inr (.inr (fun _ => none)))))), .inl (1, (100, .inl s_dO)), .inl (1, (100, .inl s_dT)), .inr (.inr 0), sc_43, sc_3, sc_2, sc_7, sc_30, sc_20, sc_12, sc_7, sc_17, sc_15, sc_15, sc_19, sc_38, sc_26, sc_25, sc_28, sc_25, sc_19, sc_31, sc_25, sc_33, sc_25, sc_35, sc_25, sc_37, sc_25, sc_42, sc_41, sc_60, sc_45, sc_47, sc_49, sc_51, sc_51, sc_54, sc_54, sc_58, sc_58, sc_61]
def sc_62 : sx_C := .inr (.inl (12, [.ref 34, .ref 35, .ref 36, .ref 37, .ref 38, .ref 39, .ref 40, .int 0, .int 0, .int (-1), .int 0, .int 0, .int 0, .int 0, .ref 41, .ref 42, .ref 43, .null, .null, .null, .null, .null, .null, .null, .null, .null, .null, .null, .null, .null, .null, .null, .null, .null, .null, .null, .null, .int 0, .int 0, .int 0, .int 0, .int 0, .int 0, .int 0, .int 0, .int 0, .int 0]))
def sH_80 (L : Nat) (xs : Nat → Int32) : sx_H := [.inl (0, (L, .inl xs)), .inl (4, (0, .inr (.inr (.inr (.inr (fun _ => none)))))), .inl (1, (100, .inl s_dO)), .inl (1, (100, .inl s_dT)), .inr (.inr 0), sc_43, sc_3, sc_2, sc_7, sc_30, sc_20, sc_12, sc_7, sc_17, sc_15, sc_15, sc_19, sc_38, sc_26, sc_25, sc_28, sc_25, sc_19, sc_31, sc_25, sc_33, sc_25, sc_35, sc_25, sc_37, sc_25, sc_42, sc_41, sc_62, sc_45, sc_47, sc_49, sc_51, sc_51, sc_54, sc_54, sc_58, sc_58, sc_61]
def sc_63 : sx_C := .inl (0, (12000, .inl (fun _ => 0)))
def sH_81 (L : Nat) (xs : Nat → Int32) : sx_H := [.inl (0, (L, .inl xs)), .inl (4, (0, .inr (.inr (.inr (.inr (fun _ => none)))))), .inl (1, (100, .inl s_dO)), .inl (1, (100, .inl s_dT)), .inr (.inr 0), sc_43, sc_3, sc_2, sc_7, sc_30, sc_20, sc_12, sc_7, sc_17, sc_15, sc_15, sc_19, sc_38, sc_26, sc_25, sc_28, sc_25, sc_19, sc_31, sc_25, sc_33, sc_25, sc_35, sc_25, sc_37, sc_25, sc_42, sc_41, sc_62, sc_45, sc_47, sc_49, sc_51, sc_51, sc_54, sc_54, sc_58, sc_58, sc_61, sc_63]
def sc_64 : sx_C := .inr (.inl (12, [.ref 34, .ref 35, .ref 36, .ref 37, .ref 38, .ref 39, .ref 40, .int 0, .int 0, .int (-1), .int 0, .int 0, .int 0, .int 0, .ref 41, .ref 42, .ref 43, .ref 44, .null, .null, .null, .null, .null, .null, .null, .null, .null, .null, .null, .null, .null, .null, .null, .null, .null, .null, .null, .int 0, .int 0, .int 0, .int 0, .int 0, .int 0, .int 0, .int 0, .int 0, .int 0]))
def sH_82 (L : Nat) (xs : Nat → Int32) : sx_H := [.inl (0, (L, .inl xs)), .inl (4, (0, .inr (.inr (.inr (.inr (fun _ => none)))))), .inl (1, (100, .inl s_dO)), .inl (1, (100, .inl s_dT)), .inr (.inr 0), sc_43, sc_3, sc_2, sc_7, sc_30, sc_20, sc_12, sc_7, sc_17, sc_15, sc_15, sc_19, sc_38, sc_26, sc_25, sc_28, sc_25, sc_19, sc_31, sc_25, sc_33, sc_25, sc_35, sc_25, sc_37, sc_25, sc_42, sc_41, sc_64, sc_45, sc_47, sc_49, sc_51, sc_51, sc_54, sc_54, sc_58, sc_58, sc_61, sc_63]
def sc_65 : sx_C := .inl (0, (61, .inl (fun _ => 0)))
def sH_83 (L : Nat) (xs : Nat → Int32) : sx_H := [.inl (0, (L, .inl xs)), .inl (4, (0, .inr (.inr (.inr (.inr (fun _ => none)))))), .inl (1, (100, .inl s_dO)), .inl (1, (100, .inl s_dT)), .inr (.inr 0), sc_43, sc_3, sc_2, sc_7, sc_30, sc_20, sc_12, sc_7, sc_17, sc_15, sc_15, sc_19, sc_38, sc_26, sc_25, sc_28, sc_25, sc_19, sc_31, sc_25, sc_33, sc_25, sc_35, sc_25, sc_37, sc_25, sc_42, sc_41, sc_64, sc_45, sc_47, sc_49, sc_51, sc_51, sc_54, sc_54, sc_58, sc_58, sc_61, sc_63, sc_65]
def sc_66 : sx_C := .inr (.inl (12, [.ref 34, .ref 35, .ref 36, .ref 37, .ref 38, .ref 39, .ref 40, .int 0, .int 0, .int (-1), .int 0, .int 0, .int 0, .int 0, .ref 41, .ref 42, .ref 43, .ref 44, .ref 45, .null, .null, .null, .null, .null, .null, .null, .null, .null, .null, .null, .null, .null, .null, .null, .null, .null, .null, .int 0, .int 0, .int 0, .int 0, .int 0, .int 0, .int 0, .int 0, .int 0, .int 0]))
def sH_84 (L : Nat) (xs : Nat → Int32) : sx_H := [.inl (0, (L, .inl xs)), .inl (4, (0, .inr (.inr (.inr (.inr (fun _ => none)))))), .inl (1, (100, .inl s_dO)), .inl (1, (100, .inl s_dT)), .inr (.inr 0), sc_43, sc_3, sc_2, sc_7, sc_30, sc_20, sc_12, sc_7, sc_17, sc_15, sc_15, sc_19, sc_38, sc_26, sc_25, sc_28, sc_25, sc_19, sc_31, sc_25, sc_33, sc_25, sc_35, sc_25, sc_37, sc_25, sc_42, sc_41, sc_66, sc_45, sc_47, sc_49, sc_51, sc_51, sc_54, sc_54, sc_58, sc_58, sc_61, sc_63, sc_65]
def sH_85 (L : Nat) (xs : Nat → Int32) : sx_H := [.inl (0, (L, .inl xs)), .inl (4, (0, .inr (.inr (.inr (.inr (fun _ => none)))))), .inl (1, (100, .inl s_dO)), .inl (1, (100, .inl s_dT)), .inr (.inr 0), sc_43, sc_3, sc_2, sc_7, sc_30, sc_20, sc_12, sc_7, sc_17, sc_15, sc_15, sc_19, sc_38, sc_26, sc_25, sc_28, sc_25, sc_19, sc_31, sc_25, sc_33, sc_25, sc_35, sc_25, sc_37, sc_25, sc_42, sc_41, sc_66, sc_45, sc_47, sc_49, sc_51, sc_51, sc_54, sc_54, sc_58, sc_58, sc_61, sc_63, sc_65, sc_65]
def sc_67 : sx_C := .inr (.inl (12, [.ref 34, .ref 35, .ref 36, .ref 37, .ref 38, .ref 39, .ref 40, .int 0, .int 0, .int (-1), .int 0, .int 0, .int 0, .int 0, .ref 41, .ref 42, .ref 43, .ref 44, .ref 45, .ref 46, .null, .null, .null, .null, .null, .null, .null, .null, .null, .null, .null, .null, .null, .null, .null, .null, .null, .int 0, .int 0, .int 0, .int 0, .int 0, .int 0, .int 0, .int 0, .int 0, .int 0]))
def sH_86 (L : Nat) (xs : Nat → Int32) : sx_H := [.inl (0, (L, .inl xs)), .inl (4, (0, .inr (.inr (.inr (.inr (fun _ => none)))))), .inl (1, (100, .inl s_dO)), .inl (1, (100, .inl s_dT)), .inr (.inr 0), sc_43, sc_3, sc_2, sc_7, sc_30, sc_20, sc_12, sc_7, sc_17, sc_15, sc_15, sc_19, sc_38, sc_26, sc_25, sc_28, sc_25, sc_19, sc_31, sc_25, sc_33, sc_25, sc_35, sc_25, sc_37, sc_25, sc_42, sc_41, sc_67, sc_45, sc_47, sc_49, sc_51, sc_51, sc_54, sc_54, sc_58, sc_58, sc_61, sc_63, sc_65, sc_65]
def sH_87 (L : Nat) (xs : Nat → Int32) : sx_H := [.inl (0, (L, .inl xs)), .inl (4, (0, .inr (.inr (.inr (.inr (fun _ => none)))))), .inl (1, (100, .inl s_dO)), .inl (1, (100, .inl s_dT)), .inr (.inr 0), sc_43, sc_3, sc_2, sc_7, sc_30, sc_20, sc_12, sc_7, sc_17, sc_15, sc_15, sc_19, sc_38, sc_26, sc_25, sc_28, sc_25, sc_19, sc_31, sc_25, sc_33, sc_25, sc_35, sc_25, sc_37, sc_25, sc_42, sc_41, sc_67, sc_45, sc_47, sc_49, sc_51, sc_51, sc_54, sc_54, sc_58, sc_58, sc_61, sc_63, sc_65, sc_65, sc_65]
def sc_68 : sx_C := .inr (.inl (12, [.ref 34, .ref 35, .ref 36, .ref 37, .ref 38, .ref 39, .ref 40, .int 0, .int 0, .int (-1), .int 0, .int 0, .int 0, .int 0, .ref 41, .ref 42, .ref 43, .ref 44, .ref 45, .ref 46, .ref 47, .null, .null, .null, .null, .null, .null, .null, .null, .null, .null, .null, .null, .null, .null, .null, .null, .int 0, .int 0, .int 0, .int 0, .int 0, .int 0, .int 0, .int 0, .int 0, .int 0]))
def sH_88 (L : Nat) (xs : Nat → Int32) : sx_H := [.inl (0, (L, .inl xs)), .inl (4, (0, .inr (.inr (.inr (.inr (fun _ => none)))))), .inl (1, (100, .inl s_dO)), .inl (1, (100, .inl s_dT)), .inr (.inr 0), sc_43, sc_3, sc_2, sc_7, sc_30, sc_20, sc_12, sc_7, sc_17, sc_15, sc_15, sc_19, sc_38, sc_26, sc_25, sc_28, sc_25, sc_19, sc_31, sc_25, sc_33, sc_25, sc_35, sc_25, sc_37, sc_25, sc_42, sc_41, sc_68, sc_45, sc_47, sc_49, sc_51, sc_51, sc_54, sc_54, sc_58, sc_58, sc_61, sc_63, sc_65, sc_65, sc_65]
def sH_89 (L : Nat) (xs : Nat → Int32) : sx_H := [.inl (0, (L, .inl xs)), .inl (4, (0, .inr (.inr (.inr (.inr (fun _ => none)))))), .inl (1, (100, .inl s_dO)), .inl (1, (100, .inl s_dT)), .inr (.inr 0), sc_43, sc_3, sc_2, sc_7, sc_30, sc_20, sc_12, sc_7, sc_17, sc_15, sc_15, sc_19, sc_38, sc_26, sc_25, sc_28, sc_25, sc_19, sc_31, sc_25, sc_33, sc_25, sc_35, sc_25, sc_37, sc_25, sc_42, sc_41, sc_68, sc_45, sc_47, sc_49, sc_51, sc_51, sc_54, sc_54, sc_58, sc_58, sc_61, sc_63, sc_65, sc_65, sc_65, sc_65]
def sc_69 : sx_C := .inr (.inl (12, [.ref 34, .ref 35, .ref 36, .ref 37, .ref 38, .ref 39, .ref 40, .int 0, .int 0, .int (-1), .int 0, .int 0, .int 0, .int 0, .ref 41, .ref 42, .ref 43, .ref 44, .ref 45, .ref 46, .ref 47, .ref 48, .null, .null, .null, .null, .null, .null, .null, .null, .null, .null, .null, .null, .null, .null, .null, .int 0, .int 0, .int 0, .int 0, .int 0, .int 0, .int 0, .int 0, .int 0, .int 0]))
def sH_90 (L : Nat) (xs : Nat → Int32) : sx_H := [.inl (0, (L, .inl xs)), .inl (4, (0, .inr (.inr (.inr (.inr (fun _ => none)))))), .inl (1, (100, .inl s_dO)), .inl (1, (100, .inl s_dT)), .inr (.inr 0), sc_43, sc_3, sc_2, sc_7, sc_30, sc_20, sc_12, sc_7, sc_17, sc_15, sc_15, sc_19, sc_38, sc_26, sc_25, sc_28, sc_25, sc_19, sc_31, sc_25, sc_33, sc_25, sc_35, sc_25, sc_37, sc_25, sc_42, sc_41, sc_69, sc_45, sc_47, sc_49, sc_51, sc_51, sc_54, sc_54, sc_58, sc_58, sc_61, sc_63, sc_65, sc_65, sc_65, sc_65]
def sH_91 (L : Nat) (xs : Nat → Int32) : sx_H := [.inl (0, (L, .inl xs)), .inl (4, (0, .inr (.inr (.inr (.inr (fun _ => none)))))), .inl (1, (100, .inl s_dO)), .inl (1, (100, .inl s_dT)), .inr (.inr 0), sc_43, sc_3, sc_2, sc_7, sc_30, sc_20, sc_12, sc_7, sc_17, sc_15, sc_15, sc_19, sc_38, sc_26, sc_25, sc_28, sc_25, sc_19, sc_31, sc_25, sc_33, sc_25, sc_35, sc_25, sc_37, sc_25, sc_42, sc_41, sc_69, sc_45, sc_47, sc_49, sc_51, sc_51, sc_54, sc_54, sc_58, sc_58, sc_61, sc_63, sc_65, sc_65, sc_65, sc_65, sc_65]
def sc_70 : sx_C := .inr (.inl (12, [.ref 34, .ref 35, .ref 36, .ref 37, .ref 38, .ref 39, .ref 40, .int 0, .int 0, .int (-1), .int 0, .int 0, .int 0, .int 0, .ref 41, .ref 42, .ref 43, .ref 44, .ref 45, .ref 46, .ref 47, .ref 48, .ref 49, .null, .null, .null, .null, .null, .null, .null, .null, .null, .null, .null, .null, .null, .null, .int 0, .int 0, .int 0, .int 0, .int 0, .int 0, .int 0, .int 0, .int 0, .int 0]))
def sH_92 (L : Nat) (xs : Nat → Int32) : sx_H := [.inl (0, (L, .inl xs)), .inl (4, (0, .inr (.inr (.inr (.inr (fun _ => none)))))), .inl (1, (100, .inl s_dO)), .inl (1, (100, .inl s_dT)), .inr (.inr 0), sc_43, sc_3, sc_2, sc_7, sc_30, sc_20, sc_12, sc_7, sc_17, sc_15, sc_15, sc_19, sc_38, sc_26, sc_25, sc_28, sc_25, sc_19, sc_31, sc_25, sc_33, sc_25, sc_35, sc_25, sc_37, sc_25, sc_42, sc_41, sc_70, sc_45, sc_47, sc_49, sc_51, sc_51, sc_54, sc_54, sc_58, sc_58, sc_61, sc_63, sc_65, sc_65, sc_65, sc_65, sc_65]
def sH_93 (L : Nat) (xs : Nat → Int32) : sx_H := [.inl (0, (L, .inl xs)), .inl (4, (0, .inr (.inr (.inr (.inr (fun _ => none)))))), .inl (1, (100, .inl s_dO)), .inl (1, (100, .inl s_dT)), .inr (.inr 0), sc_43, sc_3, sc_2, sc_7, sc_30, sc_20, sc_12, sc_7, sc_17, sc_15, sc_15, sc_19, sc_38, sc_26, sc_25, sc_28, sc_25, sc_19, sc_31, sc_25, sc_33, sc_25, sc_35, sc_25, sc_37, sc_25, sc_42, sc_41, sc_70, sc_45, sc_47, sc_49, sc_51, sc_51, sc_54, sc_54, sc_58, sc_58, sc_61, sc_63, sc_65, sc_65, sc_65, sc_65, sc_65, sc_65]
def sc_71 : sx_C := .inr (.inl (12, [.ref 34, .ref 35, .ref 36, .ref 37, .ref 38, .ref 39, .ref 40, .int 0, .int 0, .int (-1), .int 0, .int 0, .int 0, .int 0, .ref 41, .ref 42, .ref 43, .ref 44, .ref 45, .ref 46, .ref 47, .ref 48, .ref 49, .ref 50, .null, .null, .null, .null, .null, .null, .null, .null, .null, .null, .null, .null, .null, .int 0, .int 0, .int 0, .int 0, .int 0, .int 0, .int 0, .int 0, .int 0, .int 0]))
def sH_94 (L : Nat) (xs : Nat → Int32) : sx_H := [.inl (0, (L, .inl xs)), .inl (4, (0, .inr (.inr (.inr (.inr (fun _ => none)))))), .inl (1, (100, .inl s_dO)), .inl (1, (100, .inl s_dT)), .inr (.inr 0), sc_43, sc_3, sc_2, sc_7, sc_30, sc_20, sc_12, sc_7, sc_17, sc_15, sc_15, sc_19, sc_38, sc_26, sc_25, sc_28, sc_25, sc_19, sc_31, sc_25, sc_33, sc_25, sc_35, sc_25, sc_37, sc_25, sc_42, sc_41, sc_71, sc_45, sc_47, sc_49, sc_51, sc_51, sc_54, sc_54, sc_58, sc_58, sc_61, sc_63, sc_65, sc_65, sc_65, sc_65, sc_65, sc_65]
def sH_95 (L : Nat) (xs : Nat → Int32) : sx_H := [.inl (0, (L, .inl xs)), .inl (4, (0, .inr (.inr (.inr (.inr (fun _ => none)))))), .inl (1, (100, .inl s_dO)), .inl (1, (100, .inl s_dT)), .inr (.inr 0), sc_43, sc_3, sc_2, sc_7, sc_30, sc_20, sc_12, sc_7, sc_17, sc_15, sc_15, sc_19, sc_38, sc_26, sc_25, sc_28, sc_25, sc_19, sc_31, sc_25, sc_33, sc_25, sc_35, sc_25, sc_37, sc_25, sc_42, sc_41, sc_71, sc_45, sc_47, sc_49, sc_51, sc_51, sc_54, sc_54, sc_58, sc_58, sc_61, sc_63, sc_65, sc_65, sc_65, sc_65, sc_65, sc_65, sc_65]
def sc_72 : sx_C := .inr (.inl (12, [.ref 34, .ref 35, .ref 36, .ref 37, .ref 38, .ref 39, .ref 40, .int 0, .int 0, .int (-1), .int 0, .int 0, .int 0, .int 0, .ref 41, .ref 42, .ref 43, .ref 44, .ref 45, .ref 46, .ref 47, .ref 48, .ref 49, .ref 50, .ref 51, .null, .null, .null, .null, .null, .null, .null, .null, .null, .null, .null, .null, .int 0, .int 0, .int 0, .int 0, .int 0, .int 0, .int 0, .int 0, .int 0, .int 0]))
def sH_96 (L : Nat) (xs : Nat → Int32) : sx_H := [.inl (0, (L, .inl xs)), .inl (4, (0, .inr (.inr (.inr (.inr (fun _ => none)))))), .inl (1, (100, .inl s_dO)), .inl (1, (100, .inl s_dT)), .inr (.inr 0), sc_43, sc_3, sc_2, sc_7, sc_30, sc_20, sc_12, sc_7, sc_17, sc_15, sc_15, sc_19, sc_38, sc_26, sc_25, sc_28, sc_25, sc_19, sc_31, sc_25, sc_33, sc_25, sc_35, sc_25, sc_37, sc_25, sc_42, sc_41, sc_72, sc_45, sc_47, sc_49, sc_51, sc_51, sc_54, sc_54, sc_58, sc_58, sc_61, sc_63, sc_65, sc_65, sc_65, sc_65, sc_65, sc_65, sc_65]
def sH_97 (L : Nat) (xs : Nat → Int32) : sx_H := [.inl (0, (L, .inl xs)), .inl (4, (0, .inr (.inr (.inr (.inr (fun _ => none)))))), .inl (1, (100, .inl s_dO)), .inl (1, (100, .inl s_dT)), .inr (.inr 0), sc_43, sc_3, sc_2, sc_7, sc_30, sc_20, sc_12, sc_7, sc_17, sc_15, sc_15, sc_19, sc_38, sc_26, sc_25, sc_28, sc_25, sc_19, sc_31, sc_25, sc_33, sc_25, sc_35, sc_25, sc_37, sc_25, sc_42, sc_41, sc_72, sc_45, sc_47, sc_49, sc_51, sc_51, sc_54, sc_54, sc_58, sc_58, sc_61, sc_63, sc_65, sc_65, sc_65, sc_65, sc_65, sc_65, sc_65, sc_65]
def sc_73 : sx_C := .inr (.inl (12, [.ref 34, .ref 35, .ref 36, .ref 37, .ref 38, .ref 39, .ref 40, .int 0, .int 0, .int (-1), .int 0, .int 0, .int 0, .int 0, .ref 41, .ref 42, .ref 43, .ref 44, .ref 45, .ref 46, .ref 47, .ref 48, .ref 49, .ref 50, .ref 51, .ref 52, .null, .null, .null, .null, .null, .null, .null, .null, .null, .null, .null, .int 0, .int 0, .int 0, .int 0, .int 0, .int 0, .int 0, .int 0, .int 0, .int 0]))
def sH_98 (L : Nat) (xs : Nat → Int32) : sx_H := [.inl (0, (L, .inl xs)), .inl (4, (0, .inr (.inr (.inr (.inr (fun _ => none)))))), .inl (1, (100, .inl s_dO)), .inl (1, (100, .inl s_dT)), .inr (.inr 0), sc_43, sc_3, sc_2, sc_7, sc_30, sc_20, sc_12, sc_7, sc_17, sc_15, sc_15, sc_19, sc_38, sc_26, sc_25, sc_28, sc_25, sc_19, sc_31, sc_25, sc_33, sc_25, sc_35, sc_25, sc_37, sc_25, sc_42, sc_41, sc_73, sc_45, sc_47, sc_49, sc_51, sc_51, sc_54, sc_54, sc_58, sc_58, sc_61, sc_63, sc_65, sc_65, sc_65, sc_65, sc_65, sc_65, sc_65, sc_65]
def sc_74 : sx_C := .inl (0, (854, .inl (fun _ => 0)))
def sH_99 (L : Nat) (xs : Nat → Int32) : sx_H := [.inl (0, (L, .inl xs)), .inl (4, (0, .inr (.inr (.inr (.inr (fun _ => none)))))), .inl (1, (100, .inl s_dO)), .inl (1, (100, .inl s_dT)), .inr (.inr 0), sc_43, sc_3, sc_2, sc_7, sc_30, sc_20, sc_12, sc_7, sc_17, sc_15, sc_15, sc_19, sc_38, sc_26, sc_25, sc_28, sc_25, sc_19, sc_31, sc_25, sc_33, sc_25, sc_35, sc_25, sc_37, sc_25, sc_42, sc_41, sc_73, sc_45, sc_47, sc_49, sc_51, sc_51, sc_54, sc_54, sc_58, sc_58, sc_61, sc_63, sc_65, sc_65, sc_65, sc_65, sc_65, sc_65, sc_65, sc_65, sc_74]
def sc_75 : sx_C := .inr (.inl (12, [.ref 34, .ref 35, .ref 36, .ref 37, .ref 38, .ref 39, .ref 40, .int 0, .int 0, .int (-1), .int 0, .int 0, .int 0, .int 0, .ref 41, .ref 42, .ref 43, .ref 44, .ref 45, .ref 46, .ref 47, .ref 48, .ref 49, .ref 50, .ref 51, .ref 52, .ref 53, .null, .null, .null, .null, .null, .null, .null, .null, .null, .null, .int 0, .int 0, .int 0, .int 0, .int 0, .int 0, .int 0, .int 0, .int 0, .int 0]))
def sH_100 (L : Nat) (xs : Nat → Int32) : sx_H := [.inl (0, (L, .inl xs)), .inl (4, (0, .inr (.inr (.inr (.inr (fun _ => none)))))), .inl (1, (100, .inl s_dO)), .inl (1, (100, .inl s_dT)), .inr (.inr 0), sc_43, sc_3, sc_2, sc_7, sc_30, sc_20, sc_12, sc_7, sc_17, sc_15, sc_15, sc_19, sc_38, sc_26, sc_25, sc_28, sc_25, sc_19, sc_31, sc_25, sc_33, sc_25, sc_35, sc_25, sc_37, sc_25, sc_42, sc_41, sc_75, sc_45, sc_47, sc_49, sc_51, sc_51, sc_54, sc_54, sc_58, sc_58, sc_61, sc_63, sc_65, sc_65, sc_65, sc_65, sc_65, sc_65, sc_65, sc_65, sc_74]
def sc_76 : sx_C := .inl (0, (244, .inl (fun _ => 0)))
def sH_101 (L : Nat) (xs : Nat → Int32) : sx_H := [.inl (0, (L, .inl xs)), .inl (4, (0, .inr (.inr (.inr (.inr (fun _ => none)))))), .inl (1, (100, .inl s_dO)), .inl (1, (100, .inl s_dT)), .inr (.inr 0), sc_43, sc_3, sc_2, sc_7, sc_30, sc_20, sc_12, sc_7, sc_17, sc_15, sc_15, sc_19, sc_38, sc_26, sc_25, sc_28, sc_25, sc_19, sc_31, sc_25, sc_33, sc_25, sc_35, sc_25, sc_37, sc_25, sc_42, sc_41, sc_75, sc_45, sc_47, sc_49, sc_51, sc_51, sc_54, sc_54, sc_58, sc_58, sc_61, sc_63, sc_65, sc_65, sc_65, sc_65, sc_65, sc_65, sc_65, sc_65, sc_74, sc_76]
def sc_77 : sx_C := .inr (.inl (12, [.ref 34, .ref 35, .ref 36, .ref 37, .ref 38, .ref 39, .ref 40, .int 0, .int 0, .int (-1), .int 0, .int 0, .int 0, .int 0, .ref 41, .ref 42, .ref 43, .ref 44, .ref 45, .ref 46, .ref 47, .ref 48, .ref 49, .ref 50, .ref 51, .ref 52, .ref 53, .ref 54, .null, .null, .null, .null, .null, .null, .null, .null, .null, .int 0, .int 0, .int 0, .int 0, .int 0, .int 0, .int 0, .int 0, .int 0, .int 0]))
def sH_102 (L : Nat) (xs : Nat → Int32) : sx_H := [.inl (0, (L, .inl xs)), .inl (4, (0, .inr (.inr (.inr (.inr (fun _ => none)))))), .inl (1, (100, .inl s_dO)), .inl (1, (100, .inl s_dT)), .inr (.inr 0), sc_43, sc_3, sc_2, sc_7, sc_30, sc_20, sc_12, sc_7, sc_17, sc_15, sc_15, sc_19, sc_38, sc_26, sc_25, sc_28, sc_25, sc_19, sc_31, sc_25, sc_33, sc_25, sc_35, sc_25, sc_37, sc_25, sc_42, sc_41, sc_77, sc_45, sc_47, sc_49, sc_51, sc_51, sc_54, sc_54, sc_58, sc_58, sc_61, sc_63, sc_65, sc_65, sc_65, sc_65, sc_65, sc_65, sc_65, sc_65, sc_74, sc_76]
def sc_78 : sx_C := .inl (0, (4, .inl (fun _ => 0)))
def sH_103 (L : Nat) (xs : Nat → Int32) : sx_H := [.inl (0, (L, .inl xs)), .inl (4, (0, .inr (.inr (.inr (.inr (fun _ => none)))))), .inl (1, (100, .inl s_dO)), .inl (1, (100, .inl s_dT)), .inr (.inr 0), sc_43, sc_3, sc_2, sc_7, sc_30, sc_20, sc_12, sc_7, sc_17, sc_15, sc_15, sc_19, sc_38, sc_26, sc_25, sc_28, sc_25, sc_19, sc_31, sc_25, sc_33, sc_25, sc_35, sc_25, sc_37, sc_25, sc_42, sc_41, sc_77, sc_45, sc_47, sc_49, sc_51, sc_51, sc_54, sc_54, sc_58, sc_58, sc_61, sc_63, sc_65, sc_65, sc_65, sc_65, sc_65, sc_65, sc_65, sc_65, sc_74, sc_76, sc_78]
def sc_79 : sx_C := .inr (.inl (12, [.ref 34, .ref 35, .ref 36, .ref 37, .ref 38, .ref 39, .ref 40, .int 0, .int 0, .int (-1), .int 0, .int 0, .int 0, .int 0, .ref 41, .ref 42, .ref 43, .ref 44, .ref 45, .ref 46, .ref 47, .ref 48, .ref 49, .ref 50, .ref 51, .ref 52, .ref 53, .ref 54, .ref 55, .null, .null, .null, .null, .null, .null, .null, .null, .int 0, .int 0, .int 0, .int 0, .int 0, .int 0, .int 0, .int 0, .int 0, .int 0]))
def sH_104 (L : Nat) (xs : Nat → Int32) : sx_H := [.inl (0, (L, .inl xs)), .inl (4, (0, .inr (.inr (.inr (.inr (fun _ => none)))))), .inl (1, (100, .inl s_dO)), .inl (1, (100, .inl s_dT)), .inr (.inr 0), sc_43, sc_3, sc_2, sc_7, sc_30, sc_20, sc_12, sc_7, sc_17, sc_15, sc_15, sc_19, sc_38, sc_26, sc_25, sc_28, sc_25, sc_19, sc_31, sc_25, sc_33, sc_25, sc_35, sc_25, sc_37, sc_25, sc_42, sc_41, sc_79, sc_45, sc_47, sc_49, sc_51, sc_51, sc_54, sc_54, sc_58, sc_58, sc_61, sc_63, sc_65, sc_65, sc_65, sc_65, sc_65, sc_65, sc_65, sc_65, sc_74, sc_76, sc_78]
def sc_80 : sx_C := .inl (0, (14, .inl (fun _ => 0)))
def sH_105 (L : Nat) (xs : Nat → Int32) : sx_H := [.inl (0, (L, .inl xs)), .inl (4, (0, .inr (.inr (.inr (.inr (fun _ => none)))))), .inl (1, (100, .inl s_dO)), .inl (1, (100, .inl s_dT)), .inr (.inr 0), sc_43, sc_3, sc_2, sc_7, sc_30, sc_20, sc_12, sc_7, sc_17, sc_15, sc_15, sc_19, sc_38, sc_26, sc_25, sc_28, sc_25, sc_19, sc_31, sc_25, sc_33, sc_25, sc_35, sc_25, sc_37, sc_25, sc_42, sc_41, sc_79, sc_45, sc_47, sc_49, sc_51, sc_51, sc_54, sc_54, sc_58, sc_58, sc_61, sc_63, sc_65, sc_65, sc_65, sc_65, sc_65, sc_65, sc_65, sc_65, sc_74, sc_76, sc_78, sc_80]
def sc_81 : sx_C := .inr (.inl (12, [.ref 34, .ref 35, .ref 36, .ref 37, .ref 38, .ref 39, .ref 40, .int 0, .int 0, .int (-1), .int 0, .int 0, .int 0, .int 0, .ref 41, .ref 42, .ref 43, .ref 44, .ref 45, .ref 46, .ref 47, .ref 48, .ref 49, .ref 50, .ref 51, .ref 52, .ref 53, .ref 54, .ref 55, .ref 56, .null, .null, .null, .null, .null, .null, .null, .int 0, .int 0, .int 0, .int 0, .int 0, .int 0, .int 0, .int 0, .int 0, .int 0]))
def sH_106 (L : Nat) (xs : Nat → Int32) : sx_H := [.inl (0, (L, .inl xs)), .inl (4, (0, .inr (.inr (.inr (.inr (fun _ => none)))))), .inl (1, (100, .inl s_dO)), .inl (1, (100, .inl s_dT)), .inr (.inr 0), sc_43, sc_3, sc_2, sc_7, sc_30, sc_20, sc_12, sc_7, sc_17, sc_15, sc_15, sc_19, sc_38, sc_26, sc_25, sc_28, sc_25, sc_19, sc_31, sc_25, sc_33, sc_25, sc_35, sc_25, sc_37, sc_25, sc_42, sc_41, sc_81, sc_45, sc_47, sc_49, sc_51, sc_51, sc_54, sc_54, sc_58, sc_58, sc_61, sc_63, sc_65, sc_65, sc_65, sc_65, sc_65, sc_65, sc_65, sc_65, sc_74, sc_76, sc_78, sc_80]
def sc_82 : sx_C := .inl (2, (61, .inl (fun _ => 0)))
def sH_107 (L : Nat) (xs : Nat → Int32) : sx_H := [.inl (0, (L, .inl xs)), .inl (4, (0, .inr (.inr (.inr (.inr (fun _ => none)))))), .inl (1, (100, .inl s_dO)), .inl (1, (100, .inl s_dT)), .inr (.inr 0), sc_43, sc_3, sc_2, sc_7, sc_30, sc_20, sc_12, sc_7, sc_17, sc_15, sc_15, sc_19, sc_38, sc_26, sc_25, sc_28, sc_25, sc_19, sc_31, sc_25, sc_33, sc_25, sc_35, sc_25, sc_37, sc_25, sc_42, sc_41, sc_81, sc_45, sc_47, sc_49, sc_51, sc_51, sc_54, sc_54, sc_58, sc_58, sc_61, sc_63, sc_65, sc_65, sc_65, sc_65, sc_65, sc_65, sc_65, sc_65, sc_74, sc_76, sc_78, sc_80, sc_82]
def sc_83 : sx_C := .inr (.inl (12, [.ref 34, .ref 35, .ref 36, .ref 37, .ref 38, .ref 39, .ref 40, .int 0, .int 0, .int (-1), .int 0, .int 0, .int 0, .int 0, .ref 41, .ref 42, .ref 43, .ref 44, .ref 45, .ref 46, .ref 47, .ref 48, .ref 49, .ref 50, .ref 51, .ref 52, .ref 53, .ref 54, .ref 55, .ref 56, .ref 57, .null, .null, .null, .null, .null, .null, .int 0, .int 0, .int 0, .int 0, .int 0, .int 0, .int 0, .int 0, .int 0, .int 0]))
def sH_108 (L : Nat) (xs : Nat → Int32) : sx_H := [.inl (0, (L, .inl xs)), .inl (4, (0, .inr (.inr (.inr (.inr (fun _ => none)))))), .inl (1, (100, .inl s_dO)), .inl (1, (100, .inl s_dT)), .inr (.inr 0), sc_43, sc_3, sc_2, sc_7, sc_30, sc_20, sc_12, sc_7, sc_17, sc_15, sc_15, sc_19, sc_38, sc_26, sc_25, sc_28, sc_25, sc_19, sc_31, sc_25, sc_33, sc_25, sc_35, sc_25, sc_37, sc_25, sc_42, sc_41, sc_83, sc_45, sc_47, sc_49, sc_51, sc_51, sc_54, sc_54, sc_58, sc_58, sc_61, sc_63, sc_65, sc_65, sc_65, sc_65, sc_65, sc_65, sc_65, sc_65, sc_74, sc_76, sc_78, sc_80, sc_82]
def sc_84 : sx_C := .inl (0, (200, .inl (fun _ => 0)))
def sH_109 (L : Nat) (xs : Nat → Int32) : sx_H := [.inl (0, (L, .inl xs)), .inl (4, (0, .inr (.inr (.inr (.inr (fun _ => none)))))), .inl (1, (100, .inl s_dO)), .inl (1, (100, .inl s_dT)), .inr (.inr 0), sc_43, sc_3, sc_2, sc_7, sc_30, sc_20, sc_12, sc_7, sc_17, sc_15, sc_15, sc_19, sc_38, sc_26, sc_25, sc_28, sc_25, sc_19, sc_31, sc_25, sc_33, sc_25, sc_35, sc_25, sc_37, sc_25, sc_42, sc_41, sc_83, sc_45, sc_47, sc_49, sc_51, sc_51, sc_54, sc_54, sc_58, sc_58, sc_61, sc_63, sc_65, sc_65, sc_65, sc_65, sc_65, sc_65, sc_65, sc_65, sc_74, sc_76, sc_78, sc_80, sc_82, sc_84]
def sc_85 : sx_C := .inr (.inl (12, [.ref 34, .ref 35, .ref 36, .ref 37, .ref 38, .ref 39, .ref 40, .int 0, .int 0, .int (-1), .int 0, .int 0, .int 0, .int 0, .ref 41, .ref 42, .ref 43, .ref 44, .ref 45, .ref 46, .ref 47, .ref 48, .ref 49, .ref 50, .ref 51, .ref 52, .ref 53, .ref 54, .ref 55, .ref 56, .ref 57, .ref 58, .null, .null, .null, .null, .null, .int 0, .int 0, .int 0, .int 0, .int 0, .int 0, .int 0, .int 0, .int 0, .int 0]))
def sH_110 (L : Nat) (xs : Nat → Int32) : sx_H := [.inl (0, (L, .inl xs)), .inl (4, (0, .inr (.inr (.inr (.inr (fun _ => none)))))), .inl (1, (100, .inl s_dO)), .inl (1, (100, .inl s_dT)), .inr (.inr 0), sc_43, sc_3, sc_2, sc_7, sc_30, sc_20, sc_12, sc_7, sc_17, sc_15, sc_15, sc_19, sc_38, sc_26, sc_25, sc_28, sc_25, sc_19, sc_31, sc_25, sc_33, sc_25, sc_35, sc_25, sc_37, sc_25, sc_42, sc_41, sc_85, sc_45, sc_47, sc_49, sc_51, sc_51, sc_54, sc_54, sc_58, sc_58, sc_61, sc_63, sc_65, sc_65, sc_65, sc_65, sc_65, sc_65, sc_65, sc_65, sc_74, sc_76, sc_78, sc_80, sc_82, sc_84]
def sH_111 (L : Nat) (xs : Nat → Int32) : sx_H := [.inl (0, (L, .inl xs)), .inl (4, (0, .inr (.inr (.inr (.inr (fun _ => none)))))), .inl (1, (100, .inl s_dO)), .inl (1, (100, .inl s_dT)), .inr (.inr 0), sc_43, sc_3, sc_2, sc_7, sc_30, sc_20, sc_12, sc_7, sc_17, sc_15, sc_15, sc_19, sc_38, sc_26, sc_25, sc_28, sc_25, sc_19, sc_31, sc_25, sc_33, sc_25, sc_35, sc_25, sc_37, sc_25, sc_42, sc_41, sc_85, sc_45, sc_47, sc_49, sc_51, sc_51, sc_54, sc_54, sc_58, sc_58, sc_61, sc_63, sc_65, sc_65, sc_65, sc_65, sc_65, sc_65, sc_65, sc_65, sc_74, sc_76, sc_78, sc_80, sc_82, sc_84, sc_84]
def sc_86 : sx_C := .inr (.inl (12, [.ref 34, .ref 35, .ref 36, .ref 37, .ref 38, .ref 39, .ref 40, .int 0, .int 0, .int (-1), .int 0, .int 0, .int 0, .int 0, .ref 41, .ref 42, .ref 43, .ref 44, .ref 45, .ref 46, .ref 47, .ref 48, .ref 49, .ref 50, .ref 51, .ref 52, .ref 53, .ref 54, .ref 55, .ref 56, .ref 57, .ref 58, .ref 59, .null, .null, .null, .null, .int 0, .int 0, .int 0, .int 0, .int 0, .int 0, .int 0, .int 0, .int 0, .int 0]))
def sH_112 (L : Nat) (xs : Nat → Int32) : sx_H := [.inl (0, (L, .inl xs)), .inl (4, (0, .inr (.inr (.inr (.inr (fun _ => none)))))), .inl (1, (100, .inl s_dO)), .inl (1, (100, .inl s_dT)), .inr (.inr 0), sc_43, sc_3, sc_2, sc_7, sc_30, sc_20, sc_12, sc_7, sc_17, sc_15, sc_15, sc_19, sc_38, sc_26, sc_25, sc_28, sc_25, sc_19, sc_31, sc_25, sc_33, sc_25, sc_35, sc_25, sc_37, sc_25, sc_42, sc_41, sc_86, sc_45, sc_47, sc_49, sc_51, sc_51, sc_54, sc_54, sc_58, sc_58, sc_61, sc_63, sc_65, sc_65, sc_65, sc_65, sc_65, sc_65, sc_65, sc_65, sc_74, sc_76, sc_78, sc_80, sc_82, sc_84, sc_84]
def sH_113 (L : Nat) (xs : Nat → Int32) : sx_H := [.inl (0, (L, .inl xs)), .inl (4, (0, .inr (.inr (.inr (.inr (fun _ => none)))))), .inl (1, (100, .inl s_dO)), .inl (1, (100, .inl s_dT)), .inr (.inr 0), sc_43, sc_3, sc_2, sc_7, sc_30, sc_20, sc_12, sc_7, sc_17, sc_15, sc_15, sc_19, sc_38, sc_26, sc_25, sc_28, sc_25, sc_19, sc_31, sc_25, sc_33, sc_25, sc_35, sc_25, sc_37, sc_25, sc_42, sc_41, sc_86, sc_45, sc_47, sc_49, sc_51, sc_51, sc_54, sc_54, sc_58, sc_58, sc_61, sc_63, sc_65, sc_65, sc_65, sc_65, sc_65, sc_65, sc_65, sc_65, sc_74, sc_76, sc_78, sc_80, sc_82, sc_84, sc_84, sc_51]
def sc_87 : sx_C := .inr (.inl (12, [.ref 34, .ref 35, .ref 36, .ref 37, .ref 38, .ref 39, .ref 40, .int 0, .int 0, .int (-1), .int 0, .int 0, .int 0, .int 0, .ref 41, .ref 42, .ref 43, .ref 44, .ref 45, .ref 46, .ref 47, .ref 48, .ref 49, .ref 50, .ref 51, .ref 52, .ref 53, .ref 54, .ref 55, .ref 56, .ref 57, .ref 58, .ref 59, .ref 60, .null, .null, .null, .int 0, .int 0, .int 0, .int 0, .int 0, .int 0, .int 0, .int 0, .int 0, .int 0]))
def sH_114 (L : Nat) (xs : Nat → Int32) : sx_H := [.inl (0, (L, .inl xs)), .inl (4, (0, .inr (.inr (.inr (.inr (fun _ => none)))))), .inl (1, (100, .inl s_dO)), .inl (1, (100, .inl s_dT)), .inr (.inr 0), sc_43, sc_3, sc_2, sc_7, sc_30, sc_20, sc_12, sc_7, sc_17, sc_15, sc_15, sc_19, sc_38, sc_26, sc_25, sc_28, sc_25, sc_19, sc_31, sc_25, sc_33, sc_25, sc_35, sc_25, sc_37, sc_25, sc_42, sc_41, sc_87, sc_45, sc_47, sc_49, sc_51, sc_51, sc_54, sc_54, sc_58, sc_58, sc_61, sc_63, sc_65, sc_65, sc_65, sc_65, sc_65, sc_65, sc_65, sc_65, sc_74, sc_76, sc_78, sc_80, sc_82, sc_84, sc_84, sc_51]
def sH_115 (L : Nat) (xs : Nat → Int32) : sx_H := [.inl (0, (L, .inl xs)), .inl (4, (0, .inr (.inr (.inr (.inr (fun _ => none)))))), .inl (1, (100, .inl s_dO)), .inl (1, (100, .inl s_dT)), .inr (.inr 0), sc_43, sc_3, sc_2, sc_7, sc_30, sc_20, sc_12, sc_7, sc_17, sc_15, sc_15, sc_19, sc_38, sc_26, sc_25, sc_28, sc_25, sc_19, sc_31, sc_25, sc_33, sc_25, sc_35, sc_25, sc_37, sc_25, sc_42, sc_41, sc_87, sc_45, sc_47, sc_49, sc_51, sc_51, sc_54, sc_54, sc_58, sc_58, sc_61, sc_63, sc_65, sc_65, sc_65, sc_65, sc_65, sc_65, sc_65, sc_65, sc_74, sc_76, sc_78, sc_80, sc_82, sc_84, sc_84, sc_51, sc_51]
def sc_88 : sx_C := .inr (.inl (12, [.ref 34, .ref 35, .ref 36, .ref 37, .ref 38, .ref 39, .ref 40, .int 0, .int 0, .int (-1), .int 0, .int 0, .int 0, .int 0, .ref 41, .ref 42, .ref 43, .ref 44, .ref 45, .ref 46, .ref 47, .ref 48, .ref 49, .ref 50, .ref 51, .ref 52, .ref 53, .ref 54, .ref 55, .ref 56, .ref 57, .ref 58, .ref 59, .ref 60, .ref 61, .null, .null, .int 0, .int 0, .int 0, .int 0, .int 0, .int 0, .int 0, .int 0, .int 0, .int 0]))
def sH_116 (L : Nat) (xs : Nat → Int32) : sx_H := [.inl (0, (L, .inl xs)), .inl (4, (0, .inr (.inr (.inr (.inr (fun _ => none)))))), .inl (1, (100, .inl s_dO)), .inl (1, (100, .inl s_dT)), .inr (.inr 0), sc_43, sc_3, sc_2, sc_7, sc_30, sc_20, sc_12, sc_7, sc_17, sc_15, sc_15, sc_19, sc_38, sc_26, sc_25, sc_28, sc_25, sc_19, sc_31, sc_25, sc_33, sc_25, sc_35, sc_25, sc_37, sc_25, sc_42, sc_41, sc_88, sc_45, sc_47, sc_49, sc_51, sc_51, sc_54, sc_54, sc_58, sc_58, sc_61, sc_63, sc_65, sc_65, sc_65, sc_65, sc_65, sc_65, sc_65, sc_65, sc_74, sc_76, sc_78, sc_80, sc_82, sc_84, sc_84, sc_51, sc_51]
def sc_89 : sx_C := .inl (0, (80, .inl (fun _ => 0)))
def sH_117 (L : Nat) (xs : Nat → Int32) : sx_H := [.inl (0, (L, .inl xs)), .inl (4, (0, .inr (.inr (.inr (.inr (fun _ => none)))))), .inl (1, (100, .inl s_dO)), .inl (1, (100, .inl s_dT)), .inr (.inr 0), sc_43, sc_3, sc_2, sc_7, sc_30, sc_20, sc_12, sc_7, sc_17, sc_15, sc_15, sc_19, sc_38, sc_26, sc_25, sc_28, sc_25, sc_19, sc_31, sc_25, sc_33, sc_25, sc_35, sc_25, sc_37, sc_25, sc_42, sc_41, sc_88, sc_45, sc_47, sc_49, sc_51, sc_51, sc_54, sc_54, sc_58, sc_58, sc_61, sc_63, sc_65, sc_65, sc_65, sc_65, sc_65, sc_65, sc_65, sc_65, sc_74, sc_76, sc_78, sc_80, sc_82, sc_84, sc_84, sc_51, sc_51, sc_89]
def sc_90 : sx_C := .inr (.inl (12, [.ref 34, .ref 35, .ref 36, .ref 37, .ref 38, .ref 39, .ref 40, .int 0, .int 0, .int (-1), .int 0, .int 0, .int 0, .int 0, .ref 41, .ref 42, .ref 43, .ref 44, .ref 45, .ref 46, .ref 47, .ref 48, .ref 49, .ref 50, .ref 51, .ref 52, .ref 53, .ref 54, .ref 55, .ref 56, .ref 57, .ref 58, .ref 59, .ref 60, .ref 61, .ref 62, .null, .int 0, .int 0, .int 0, .int 0, .int 0, .int 0, .int 0, .int 0, .int 0, .int 0]))
def sH_118 (L : Nat) (xs : Nat → Int32) : sx_H := [.inl (0, (L, .inl xs)), .inl (4, (0, .inr (.inr (.inr (.inr (fun _ => none)))))), .inl (1, (100, .inl s_dO)), .inl (1, (100, .inl s_dT)), .inr (.inr 0), sc_43, sc_3, sc_2, sc_7, sc_30, sc_20, sc_12, sc_7, sc_17, sc_15, sc_15, sc_19, sc_38, sc_26, sc_25, sc_28, sc_25, sc_19, sc_31, sc_25, sc_33, sc_25, sc_35, sc_25, sc_37, sc_25, sc_42, sc_41, sc_90, sc_45, sc_47, sc_49, sc_51, sc_51, sc_54, sc_54, sc_58, sc_58, sc_61, sc_63, sc_65, sc_65, sc_65, sc_65, sc_65, sc_65, sc_65, sc_65, sc_74, sc_76, sc_78, sc_80, sc_82, sc_84, sc_84, sc_51, sc_51, sc_89]
def sc_91 : sx_C := .inl (0, (800, .inl (fun _ => 0)))
def sH_119 (L : Nat) (xs : Nat → Int32) : sx_H := [.inl (0, (L, .inl xs)), .inl (4, (0, .inr (.inr (.inr (.inr (fun _ => none)))))), .inl (1, (100, .inl s_dO)), .inl (1, (100, .inl s_dT)), .inr (.inr 0), sc_43, sc_3, sc_2, sc_7, sc_30, sc_20, sc_12, sc_7, sc_17, sc_15, sc_15, sc_19, sc_38, sc_26, sc_25, sc_28, sc_25, sc_19, sc_31, sc_25, sc_33, sc_25, sc_35, sc_25, sc_37, sc_25, sc_42, sc_41, sc_90, sc_45, sc_47, sc_49, sc_51, sc_51, sc_54, sc_54, sc_58, sc_58, sc_61, sc_63, sc_65, sc_65, sc_65, sc_65, sc_65, sc_65, sc_65, sc_65, sc_74, sc_76, sc_78, sc_80, sc_82, sc_84, sc_84, sc_51, sc_51, sc_89, sc_91]
def sc_92 : sx_C := .inr (.inl (12, [.ref 34, .ref 35, .ref 36, .ref 37, .ref 38, .ref 39, .ref 40, .int 0, .int 0, .int (-1), .int 0, .int 0, .int 0, .int 0, .ref 41, .ref 42, .ref 43, .ref 44, .ref 45, .ref 46, .ref 47, .ref 48, .ref 49, .ref 50, .ref 51, .ref 52, .ref 53, .ref 54, .ref 55, .ref 56, .ref 57, .ref 58, .ref 59, .ref 60, .ref 61, .ref 62, .ref 63, .int 0, .int 0, .int 0, .int 0, .int 0, .int 0, .int 0, .int 0, .int 0, .int 0]))
def sH_120 (L : Nat) (xs : Nat → Int32) : sx_H := [.inl (0, (L, .inl xs)), .inl (4, (0, .inr (.inr (.inr (.inr (fun _ => none)))))), .inl (1, (100, .inl s_dO)), .inl (1, (100, .inl s_dT)), .inr (.inr 0), sc_43, sc_3, sc_2, sc_7, sc_30, sc_20, sc_12, sc_7, sc_17, sc_15, sc_15, sc_19, sc_38, sc_26, sc_25, sc_28, sc_25, sc_19, sc_31, sc_25, sc_33, sc_25, sc_35, sc_25, sc_37, sc_25, sc_42, sc_41, sc_92, sc_45, sc_47, sc_49, sc_51, sc_51, sc_54, sc_54, sc_58, sc_58, sc_61, sc_63, sc_65, sc_65, sc_65, sc_65, sc_65, sc_65, sc_65, sc_65, sc_74, sc_76, sc_78, sc_80, sc_82, sc_84, sc_84, sc_51, sc_51, sc_89, sc_91]
def sc_93 : sx_C := .inl (3, (1, .inr (.inl (fun _ => 0))))
def sH_121 (L : Nat) (xs : Nat → Int32) : sx_H := [.inl (0, (L, .inl xs)), .inl (4, (0, .inr (.inr (.inr (.inr (fun _ => none)))))), .inl (1, (100, .inl s_dO)), .inl (1, (100, .inl s_dT)), .inr (.inr 0), sc_43, sc_3, sc_2, sc_7, sc_30, sc_20, sc_12, sc_7, sc_17, sc_15, sc_15, sc_19, sc_38, sc_26, sc_25, sc_28, sc_25, sc_19, sc_31, sc_25, sc_33, sc_25, sc_35, sc_25, sc_37, sc_25, sc_42, sc_41, sc_92, sc_45, sc_47, sc_49, sc_51, sc_51, sc_54, sc_54, sc_58, sc_58, sc_61, sc_63, sc_65, sc_65, sc_65, sc_65, sc_65, sc_65, sc_65, sc_65, sc_74, sc_76, sc_78, sc_80, sc_82, sc_84, sc_84, sc_51, sc_51, sc_89, sc_91, sc_93]
set_option maxRecDepth 20000 in
set_option maxHeartbeats 4000000 in
theorem s_ctN_0 (L : Nat) (xs : Nat → Int32) {P : Option Value ⊕ Nat → sx_H → Nat → Nat → Prop} (hk : s_wp 518 sM_2 12 [(0, .ref 9)] [.ref 10, .ref 9] (sH_24 L xs) 12 352 P) : s_wp 518 sM_2 0 [(0, .ref 9)] [] (sH_10 L xs) 5 67 P := by
  refine w_mv (pc1 := 1) (st1 := [.ref 9]) rfl rfl rfl ?_
  refine w_obj (pc1 := 4) (st1 := []) rfl rfl rfl (by decide) rfl ?_
  refine w_mv (pc1 := 5) (st1 := [.ref 9]) rfl rfl rfl ?_
  refine w_st (pc1 := 8) (st1 := [.ref 10, .ref 9]) (hs1 := sH_11 L xs) (dc1 := 1) (ds1 := 5) (dc2 := 6) (ds2 := 72) rfl rfl rfl rfl rfl ?_
  refine w_mv (pc1 := 9) (st1 := [.ref 10, .ref 10, .ref 9]) rfl rfl rfl ?_
  refine w_call (M' := sM_3) (vals := [.ref 10]) (rest := [.ref 10, .ref 9]) (lv' := [(0, .ref 10)]) rfl rfl rfl rfl rfl rfl rfl rfl rfl rfl ?_
  refine w_mv (pc1 := 1) (st1 := [.ref 10]) rfl rfl rfl ?_
  refine w_obj (pc1 := 4) (st1 := []) rfl rfl rfl (by decide) rfl ?_
  refine w_mv (pc1 := 5) (st1 := [.ref 10]) rfl rfl rfl ?_
  refine w_st (pc1 := 8) (st1 := [.ref 11, .ref 10]) (hs1 := sH_12 L xs) (dc1 := 1) (ds1 := 3) (dc2 := 7) (ds2 := 75) rfl rfl rfl rfl rfl ?_
  refine w_mv (pc1 := 9) (st1 := [.ref 11, .ref 11, .ref 10]) rfl rfl rfl ?_
  refine w_call (M' := sM_4) (vals := [.ref 11]) (rest := [.ref 11, .ref 10]) (lv' := [(0, .ref 11)]) rfl rfl rfl rfl rfl rfl rfl rfl rfl rfl ?_
  refine w_mv (pc1 := 1) (st1 := [.ref 11]) rfl rfl rfl ?_
  refine w_obj (pc1 := 4) (st1 := []) rfl rfl rfl (by decide) rfl ?_
  refine w_mv (pc1 := 5) (st1 := [.ref 11]) rfl rfl rfl ?_
  refine w_st (pc1 := 8) (st1 := [.ref 12, .ref 11]) (hs1 := sH_13 L xs) (dc1 := 1) (ds1 := 3) (dc2 := 8) (ds2 := 78) rfl rfl rfl rfl rfl ?_
  refine w_mv (pc1 := 9) (st1 := [.ref 12, .ref 12, .ref 11]) rfl rfl rfl ?_
  refine w_call (M' := sM_160) (vals := [.ref 12]) (rest := [.ref 12, .ref 11]) (lv' := [(0, .ref 12)]) rfl rfl rfl rfl rfl rfl rfl rfl rfl rfl ?_
  refine w_mv (pc1 := 1) (st1 := [.ref 12]) rfl rfl rfl ?_
  refine w_call (M' := sM_161) (vals := [.ref 12]) (rest := []) (lv' := [(0, .ref 12)]) rfl rfl rfl rfl rfl rfl rfl rfl rfl rfl ?_
  refine w_mv (pc1 := 1) (st1 := [.ref 12]) rfl rfl rfl ?_
  refine w_call (M' := sM_162) (vals := [.ref 12]) (rest := []) (lv' := [(0, .ref 12)]) rfl rfl rfl rfl rfl rfl rfl rfl rfl rfl ?_
  refine w_mv (pc1 := 1) (st1 := [.ref 12]) rfl rfl rfl ?_
  refine w_obj (pc1 := 4) (st1 := []) rfl rfl rfl (by decide) rfl ?_
  refine w_vret (pc1 := 4) rfl rfl rfl ?_
  refine w_mv (pc1 := 5) (st1 := [.ref 12]) rfl rfl rfl ?_
  refine w_mv (pc1 := 6) (st1 := [.int 0, .ref 12]) rfl rfl rfl ?_
  refine w_st (pc1 := 9) (st1 := []) (hs1 := sH_13 L xs) (dc1 := 0) (ds1 := 0) (dc2 := 8) (ds2 := 78) rfl rfl rfl rfl rfl ?_
  refine w_vret (pc1 := 4) rfl rfl rfl ?_
  refine w_mv (pc1 := 5) (st1 := [.ref 12]) rfl rfl rfl ?_
  refine w_mv (pc1 := 8) (st1 := [.ref 1, .ref 12]) rfl rfl rfl ?_
  refine w_st (pc1 := 11) (st1 := []) (hs1 := sH_14 L xs) (dc1 := 0) (ds1 := 0) (dc2 := 8) (ds2 := 78) rfl rfl rfl rfl rfl ?_
  refine w_vret (pc1 := 12) rfl rfl rfl ?_
  refine w_st (pc1 := 15) (st1 := []) (hs1 := sH_15 L xs) (dc1 := 0) (ds1 := 0) (dc2 := 8) (ds2 := 78) rfl rfl rfl rfl rfl ?_
  refine w_vret (pc1 := 12) rfl rfl rfl ?_
  refine w_st (pc1 := 15) (st1 := []) (hs1 := sH_16 L xs) (dc1 := 0) (ds1 := 0) (dc2 := 8) (ds2 := 78) rfl rfl rfl rfl rfl ?_
  refine w_mv (pc1 := 16) (st1 := [.ref 10]) rfl rfl rfl ?_
  refine w_st (pc1 := 19) (st1 := [.ref 13, .ref 10]) (hs1 := sH_17 L xs) (dc1 := 1) (ds1 := 6) (dc2 := 9) (ds2 := 84) rfl rfl rfl rfl rfl ?_
  refine w_mv (pc1 := 20) (st1 := [.ref 13, .ref 13, .ref 10]) rfl rfl rfl ?_
  refine w_call (M' := sM_5) (vals := [.ref 13]) (rest := [.ref 13, .ref 10]) (lv' := [(0, .ref 13)]) rfl rfl rfl rfl rfl rfl rfl rfl rfl rfl ?_
  refine w_mv (pc1 := 1) (st1 := [.ref 13]) rfl rfl rfl ?_
  refine w_obj (pc1 := 4) (st1 := []) rfl rfl rfl (by decide) rfl ?_
  refine w_mv (pc1 := 5) (st1 := [.ref 13]) rfl rfl rfl ?_
  refine w_mv (pc1 := 7) (st1 := [.int 121, .ref 13]) rfl rfl rfl ?_
  refine w_st (pc1 := 10) (st1 := [.ref 14, .ref 13]) (hs1 := sH_18 L xs) (dc1 := 1) (ds1 := 121) (dc2 := 10) (ds2 := 205) rfl rfl rfl rfl rfl ?_
  refine w_st (pc1 := 13) (st1 := []) (hs1 := sH_19 L xs) (dc1 := 0) (ds1 := 0) (dc2 := 10) (ds2 := 205) rfl rfl rfl rfl rfl ?_
  refine w_mv (pc1 := 14) (st1 := [.ref 13]) rfl rfl rfl ?_
  refine w_mv (pc1 := 16) (st1 := [.int 121, .ref 13]) rfl rfl rfl ?_
  refine w_st (pc1 := 19) (st1 := [.ref 15, .ref 13]) (hs1 := sH_20 L xs) (dc1 := 1) (ds1 := 121) (dc2 := 11) (ds2 := 326) rfl rfl rfl rfl rfl ?_
  refine w_st (pc1 := 22) (st1 := []) (hs1 := sH_21 L xs) (dc1 := 0) (ds1 := 0) (dc2 := 11) (ds2 := 326) rfl rfl rfl rfl rfl ?_
  refine w_vret (pc1 := 23) rfl rfl rfl ?_
  refine w_st (pc1 := 26) (st1 := []) (hs1 := sH_22 L xs) (dc1 := 0) (ds1 := 0) (dc2 := 11) (ds2 := 326) rfl rfl rfl rfl rfl ?_
  refine w_mv (pc1 := 27) (st1 := [.ref 10]) rfl rfl rfl ?_
  refine w_mv (pc1 := 29) (st1 := [.int 26, .ref 10]) rfl rfl rfl ?_
  refine w_st (pc1 := 32) (st1 := [.ref 16, .ref 10]) (hs1 := sH_23 L xs) (dc1 := 1) (ds1 := 26) (dc2 := 12) (ds2 := 352) rfl rfl rfl rfl rfl ?_
  refine w_st (pc1 := 35) (st1 := []) (hs1 := sH_24 L xs) (dc1 := 0) (ds1 := 0) (dc2 := 12) (ds2 := 352) rfl rfl rfl rfl rfl ?_
  refine w_vret (pc1 := 12) rfl rfl rfl ?_
  exact hk
set_option maxRecDepth 20000 in
set_option maxHeartbeats 4000000 in
theorem s_ctN_1 (L : Nat) (xs : Nat → Int32) {P : Option Value ⊕ Nat → sx_H → Nat → Nat → Prop} (hk : s_wp 518 sM_2 65 [(1, .int 0), (0, .ref 9)] [.ref 17] (sH_37 L xs) 18 508 P) : s_wp 518 sM_2 12 [(0, .ref 9)] [.ref 10, .ref 9] (sH_24 L xs) 12 352 P := by
  refine w_st (pc1 := 15) (st1 := []) (hs1 := sH_25 L xs) (dc1 := 0) (ds1 := 0) (dc2 := 12) (ds2 := 352) rfl rfl rfl rfl rfl ?_
  refine w_mv (pc1 := 16) (st1 := [.ref 9]) rfl rfl rfl ?_
  refine w_mv (pc1 := 17) (st1 := [.int 4, .ref 9]) rfl rfl rfl ?_
  refine w_st (pc1 := 20) (st1 := [.ref 17, .ref 9]) (hs1 := sH_26 L xs) (dc1 := 1) (ds1 := 4) (dc2 := 13) (ds2 := 356) rfl rfl rfl rfl rfl ?_
  refine w_st (pc1 := 23) (st1 := []) (hs1 := sH_27 L xs) (dc1 := 0) (ds1 := 0) (dc2 := 13) (ds2 := 356) rfl rfl rfl rfl rfl ?_
  refine w_mv (pc1 := 24) (st1 := [.ref 9]) rfl rfl rfl ?_
  refine w_st (pc1 := 27) (st1 := [.ref 18, .ref 9]) (hs1 := sH_28 L xs) (dc1 := 1) (ds1 := 2) (dc2 := 14) (ds2 := 358) rfl rfl rfl rfl rfl ?_
  refine w_mv (pc1 := 28) (st1 := [.ref 18, .ref 18, .ref 9]) rfl rfl rfl ?_
  refine w_call (M' := sM_6) (vals := [.ref 18]) (rest := [.ref 18, .ref 9]) (lv' := [(0, .ref 18)]) rfl rfl rfl rfl rfl rfl rfl rfl rfl rfl ?_
  refine w_mv (pc1 := 1) (st1 := [.ref 18]) rfl rfl rfl ?_
  refine w_obj (pc1 := 4) (st1 := []) rfl rfl rfl (by decide) rfl ?_
  refine w_mv (pc1 := 5) (st1 := [.ref 18]) rfl rfl rfl ?_
  refine w_mv (pc1 := 7) (st1 := [.int 61, .ref 18]) rfl rfl rfl ?_
  refine w_st (pc1 := 10) (st1 := [.ref 19, .ref 18]) (hs1 := sH_29 L xs) (dc1 := 1) (ds1 := 61) (dc2 := 15) (ds2 := 419) rfl rfl rfl rfl rfl ?_
  refine w_st (pc1 := 13) (st1 := []) (hs1 := sH_30 L xs) (dc1 := 0) (ds1 := 0) (dc2 := 15) (ds2 := 419) rfl rfl rfl rfl rfl ?_
  refine w_vret (pc1 := 31) rfl rfl rfl ?_
  refine w_st (pc1 := 34) (st1 := []) (hs1 := sH_31 L xs) (dc1 := 0) (ds1 := 0) (dc2 := 15) (ds2 := 419) rfl rfl rfl rfl rfl ?_
  refine w_mv (pc1 := 35) (st1 := [.ref 9]) rfl rfl rfl ?_
  refine w_st (pc1 := 38) (st1 := [.ref 20, .ref 9]) (hs1 := sH_32 L xs) (dc1 := 1) (ds1 := 2) (dc2 := 16) (ds2 := 421) rfl rfl rfl rfl rfl ?_
  refine w_mv (pc1 := 39) (st1 := [.ref 20, .ref 20, .ref 9]) rfl rfl rfl ?_
  refine w_call (M' := sM_6) (vals := [.ref 20]) (rest := [.ref 20, .ref 9]) (lv' := [(0, .ref 20)]) rfl rfl rfl rfl rfl rfl rfl rfl rfl rfl ?_
  refine w_mv (pc1 := 1) (st1 := [.ref 20]) rfl rfl rfl ?_
  refine w_obj (pc1 := 4) (st1 := []) rfl rfl rfl (by decide) rfl ?_
  refine w_mv (pc1 := 5) (st1 := [.ref 20]) rfl rfl rfl ?_
  refine w_mv (pc1 := 7) (st1 := [.int 61, .ref 20]) rfl rfl rfl ?_
  refine w_st (pc1 := 10) (st1 := [.ref 21, .ref 20]) (hs1 := sH_33 L xs) (dc1 := 1) (ds1 := 61) (dc2 := 17) (ds2 := 482) rfl rfl rfl rfl rfl ?_
  refine w_st (pc1 := 13) (st1 := []) (hs1 := sH_34 L xs) (dc1 := 0) (ds1 := 0) (dc2 := 17) (ds2 := 482) rfl rfl rfl rfl rfl ?_
  refine w_vret (pc1 := 42) rfl rfl rfl ?_
  refine w_st (pc1 := 45) (st1 := []) (hs1 := sH_35 L xs) (dc1 := 0) (ds1 := 0) (dc2 := 17) (ds2 := 482) rfl rfl rfl rfl rfl ?_
  refine w_mv (pc1 := 46) (st1 := [.ref 9]) rfl rfl rfl ?_
  refine w_mv (pc1 := 48) (st1 := [.int 26, .ref 9]) rfl rfl rfl ?_
  refine w_st (pc1 := 51) (st1 := [.ref 22, .ref 9]) (hs1 := sH_36 L xs) (dc1 := 1) (ds1 := 26) (dc2 := 18) (ds2 := 508) rfl rfl rfl rfl rfl ?_
  refine w_st (pc1 := 54) (st1 := []) (hs1 := sH_37 L xs) (dc1 := 0) (ds1 := 0) (dc2 := 18) (ds2 := 508) rfl rfl rfl rfl rfl ?_
  refine w_mv (pc1 := 55) (st1 := [.int 0]) rfl rfl rfl ?_
  refine w_mv (pc1 := 56) (lv1 := [(1, .int 0), (0, .ref 9)]) (st1 := []) rfl rfl rfl ?_
  refine w_mv (pc1 := 57) (st1 := [.int 0]) rfl rfl rfl ?_
  refine w_mv (pc1 := 58) (st1 := [.int 4, .int 0]) rfl rfl rfl ?_
  refine w_mv (pc1 := 61) (st1 := []) rfl rfl rfl ?_
  refine w_mv (pc1 := 62) (st1 := [.ref 9]) rfl rfl rfl ?_
  refine w_mv (pc1 := 65) (st1 := [.ref 17]) rfl rfl rfl ?_
  exact hk
set_option maxRecDepth 20000 in
set_option maxHeartbeats 4000000 in
theorem s_ctN_2 (L : Nat) (xs : Nat → Int32) {P : Option Value ⊕ Nat → sx_H → Nat → Nat → Prop} (hk : s_wp 518 sM_2 69 [(1, .int 2), (0, .ref 9)] [.ref 27, .int 2, .ref 17] (sH_46 L xs) 23 636 P) : s_wp 518 sM_2 65 [(1, .int 0), (0, .ref 9)] [.ref 17] (sH_37 L xs) 18 508 P := by
  refine w_mv (pc1 := 66) (st1 := [.int 0, .ref 17]) rfl rfl rfl ?_
  refine w_st (pc1 := 69) (st1 := [.ref 23, .int 0, .ref 17]) (hs1 := sH_38 L xs) (dc1 := 1) (ds1 := 2) (dc2 := 19) (ds2 := 510) rfl rfl rfl rfl rfl ?_
  refine w_mv (pc1 := 70) (st1 := [.ref 23, .ref 23, .int 0, .ref 17]) rfl rfl rfl ?_
  refine w_call (M' := sM_6) (vals := [.ref 23]) (rest := [.ref 23, .int 0, .ref 17]) (lv' := [(0, .ref 23)]) rfl rfl rfl rfl rfl rfl rfl rfl rfl rfl ?_
  refine w_mv (pc1 := 1) (st1 := [.ref 23]) rfl rfl rfl ?_
  refine w_obj (pc1 := 4) (st1 := []) rfl rfl rfl (by decide) rfl ?_
  refine w_mv (pc1 := 5) (st1 := [.ref 23]) rfl rfl rfl ?_
  refine w_mv (pc1 := 7) (st1 := [.int 61, .ref 23]) rfl rfl rfl ?_
  refine w_st (pc1 := 10) (st1 := [.ref 24, .ref 23]) (hs1 := sH_39 L xs) (dc1 := 1) (ds1 := 61) (dc2 := 20) (ds2 := 571) rfl rfl rfl rfl rfl ?_
  refine w_st (pc1 := 13) (st1 := []) (hs1 := sH_40 L xs) (dc1 := 0) (ds1 := 0) (dc2 := 20) (ds2 := 571) rfl rfl rfl rfl rfl ?_
  refine w_vret (pc1 := 73) rfl rfl rfl ?_
  refine w_st (pc1 := 74) (st1 := []) (hs1 := sH_41 L xs) (dc1 := 0) (ds1 := 0) (dc2 := 20) (ds2 := 571) rfl rfl rfl rfl rfl ?_
  refine w_mv (pc1 := 77) (lv1 := [(1, .int 1), (0, .ref 9)]) (st1 := []) rfl rfl rfl ?_
  refine w_mv (pc1 := 56) (st1 := []) rfl rfl rfl ?_
  refine w_mv (pc1 := 57) (st1 := [.int 1]) rfl rfl rfl ?_
  refine w_mv (pc1 := 58) (st1 := [.int 4, .int 1]) rfl rfl rfl ?_
  refine w_mv (pc1 := 61) (st1 := []) rfl rfl rfl ?_
  refine w_mv (pc1 := 62) (st1 := [.ref 9]) rfl rfl rfl ?_
  refine w_mv (pc1 := 65) (st1 := [.ref 17]) rfl rfl rfl ?_
  refine w_mv (pc1 := 66) (st1 := [.int 1, .ref 17]) rfl rfl rfl ?_
  refine w_st (pc1 := 69) (st1 := [.ref 25, .int 1, .ref 17]) (hs1 := sH_42 L xs) (dc1 := 1) (ds1 := 2) (dc2 := 21) (ds2 := 573) rfl rfl rfl rfl rfl ?_
  refine w_mv (pc1 := 70) (st1 := [.ref 25, .ref 25, .int 1, .ref 17]) rfl rfl rfl ?_
  refine w_call (M' := sM_6) (vals := [.ref 25]) (rest := [.ref 25, .int 1, .ref 17]) (lv' := [(0, .ref 25)]) rfl rfl rfl rfl rfl rfl rfl rfl rfl rfl ?_
  refine w_mv (pc1 := 1) (st1 := [.ref 25]) rfl rfl rfl ?_
  refine w_obj (pc1 := 4) (st1 := []) rfl rfl rfl (by decide) rfl ?_
  refine w_mv (pc1 := 5) (st1 := [.ref 25]) rfl rfl rfl ?_
  refine w_mv (pc1 := 7) (st1 := [.int 61, .ref 25]) rfl rfl rfl ?_
  refine w_st (pc1 := 10) (st1 := [.ref 26, .ref 25]) (hs1 := sH_43 L xs) (dc1 := 1) (ds1 := 61) (dc2 := 22) (ds2 := 634) rfl rfl rfl rfl rfl ?_
  refine w_st (pc1 := 13) (st1 := []) (hs1 := sH_44 L xs) (dc1 := 0) (ds1 := 0) (dc2 := 22) (ds2 := 634) rfl rfl rfl rfl rfl ?_
  refine w_vret (pc1 := 73) rfl rfl rfl ?_
  refine w_st (pc1 := 74) (st1 := []) (hs1 := sH_45 L xs) (dc1 := 0) (ds1 := 0) (dc2 := 22) (ds2 := 634) rfl rfl rfl rfl rfl ?_
  refine w_mv (pc1 := 77) (lv1 := [(1, .int 2), (0, .ref 9)]) (st1 := []) rfl rfl rfl ?_
  refine w_mv (pc1 := 56) (st1 := []) rfl rfl rfl ?_
  refine w_mv (pc1 := 57) (st1 := [.int 2]) rfl rfl rfl ?_
  refine w_mv (pc1 := 58) (st1 := [.int 4, .int 2]) rfl rfl rfl ?_
  refine w_mv (pc1 := 61) (st1 := []) rfl rfl rfl ?_
  refine w_mv (pc1 := 62) (st1 := [.ref 9]) rfl rfl rfl ?_
  refine w_mv (pc1 := 65) (st1 := [.ref 17]) rfl rfl rfl ?_
  refine w_mv (pc1 := 66) (st1 := [.int 2, .ref 17]) rfl rfl rfl ?_
  refine w_st (pc1 := 69) (st1 := [.ref 27, .int 2, .ref 17]) (hs1 := sH_46 L xs) (dc1 := 1) (ds1 := 2) (dc2 := 23) (ds2 := 636) rfl rfl rfl rfl rfl ?_
  exact hk
set_option maxRecDepth 20000 in
set_option maxHeartbeats 4000000 in
theorem s_ctN_3 (L : Nat) (xs : Nat → Int32) {P : Option Value ⊕ Nat → sx_H → Nat → Nat → Prop} (hk : s_wp 518 sM_2 90 [(1, .int 4), (0, .ref 9)] [] (sH_53 L xs) 26 760 P) : s_wp 518 sM_2 69 [(1, .int 2), (0, .ref 9)] [.ref 27, .int 2, .ref 17] (sH_46 L xs) 23 636 P := by
  refine w_mv (pc1 := 70) (st1 := [.ref 27, .ref 27, .int 2, .ref 17]) rfl rfl rfl ?_
  refine w_call (M' := sM_6) (vals := [.ref 27]) (rest := [.ref 27, .int 2, .ref 17]) (lv' := [(0, .ref 27)]) rfl rfl rfl rfl rfl rfl rfl rfl rfl rfl ?_
  refine w_mv (pc1 := 1) (st1 := [.ref 27]) rfl rfl rfl ?_
  refine w_obj (pc1 := 4) (st1 := []) rfl rfl rfl (by decide) rfl ?_
  refine w_mv (pc1 := 5) (st1 := [.ref 27]) rfl rfl rfl ?_
  refine w_mv (pc1 := 7) (st1 := [.int 61, .ref 27]) rfl rfl rfl ?_
  refine w_st (pc1 := 10) (st1 := [.ref 28, .ref 27]) (hs1 := sH_47 L xs) (dc1 := 1) (ds1 := 61) (dc2 := 24) (ds2 := 697) rfl rfl rfl rfl rfl ?_
  refine w_st (pc1 := 13) (st1 := []) (hs1 := sH_48 L xs) (dc1 := 0) (ds1 := 0) (dc2 := 24) (ds2 := 697) rfl rfl rfl rfl rfl ?_
  refine w_vret (pc1 := 73) rfl rfl rfl ?_
  refine w_st (pc1 := 74) (st1 := []) (hs1 := sH_49 L xs) (dc1 := 0) (ds1 := 0) (dc2 := 24) (ds2 := 697) rfl rfl rfl rfl rfl ?_
  refine w_mv (pc1 := 77) (lv1 := [(1, .int 3), (0, .ref 9)]) (st1 := []) rfl rfl rfl ?_
  refine w_mv (pc1 := 56) (st1 := []) rfl rfl rfl ?_
  refine w_mv (pc1 := 57) (st1 := [.int 3]) rfl rfl rfl ?_
  refine w_mv (pc1 := 58) (st1 := [.int 4, .int 3]) rfl rfl rfl ?_
  refine w_mv (pc1 := 61) (st1 := []) rfl rfl rfl ?_
  refine w_mv (pc1 := 62) (st1 := [.ref 9]) rfl rfl rfl ?_
  refine w_mv (pc1 := 65) (st1 := [.ref 17]) rfl rfl rfl ?_
  refine w_mv (pc1 := 66) (st1 := [.int 3, .ref 17]) rfl rfl rfl ?_
  refine w_st (pc1 := 69) (st1 := [.ref 29, .int 3, .ref 17]) (hs1 := sH_50 L xs) (dc1 := 1) (ds1 := 2) (dc2 := 25) (ds2 := 699) rfl rfl rfl rfl rfl ?_
  refine w_mv (pc1 := 70) (st1 := [.ref 29, .ref 29, .int 3, .ref 17]) rfl rfl rfl ?_
  refine w_call (M' := sM_6) (vals := [.ref 29]) (rest := [.ref 29, .int 3, .ref 17]) (lv' := [(0, .ref 29)]) rfl rfl rfl rfl rfl rfl rfl rfl rfl rfl ?_
  refine w_mv (pc1 := 1) (st1 := [.ref 29]) rfl rfl rfl ?_
  refine w_obj (pc1 := 4) (st1 := []) rfl rfl rfl (by decide) rfl ?_
  refine w_mv (pc1 := 5) (st1 := [.ref 29]) rfl rfl rfl ?_
  refine w_mv (pc1 := 7) (st1 := [.int 61, .ref 29]) rfl rfl rfl ?_
  refine w_st (pc1 := 10) (st1 := [.ref 30, .ref 29]) (hs1 := sH_51 L xs) (dc1 := 1) (ds1 := 61) (dc2 := 26) (ds2 := 760) rfl rfl rfl rfl rfl ?_
  refine w_st (pc1 := 13) (st1 := []) (hs1 := sH_52 L xs) (dc1 := 0) (ds1 := 0) (dc2 := 26) (ds2 := 760) rfl rfl rfl rfl rfl ?_
  refine w_vret (pc1 := 73) rfl rfl rfl ?_
  refine w_st (pc1 := 74) (st1 := []) (hs1 := sH_53 L xs) (dc1 := 0) (ds1 := 0) (dc2 := 26) (ds2 := 760) rfl rfl rfl rfl rfl ?_
  refine w_mv (pc1 := 77) (lv1 := [(1, .int 4), (0, .ref 9)]) (st1 := []) rfl rfl rfl ?_
  refine w_mv (pc1 := 56) (st1 := []) rfl rfl rfl ?_
  refine w_mv (pc1 := 57) (st1 := [.int 4]) rfl rfl rfl ?_
  refine w_mv (pc1 := 58) (st1 := [.int 4, .int 4]) rfl rfl rfl ?_
  refine w_mv (pc1 := 80) (st1 := []) rfl rfl rfl ?_
  refine w_mv (pc1 := 81) (st1 := [.ref 9]) rfl rfl rfl ?_
  refine w_mv (pc1 := 82) (st1 := [.int 0, .ref 9]) rfl rfl rfl ?_
  refine w_st (pc1 := 85) (st1 := []) (hs1 := sH_53 L xs) (dc1 := 0) (ds1 := 0) (dc2 := 26) (ds2 := 760) rfl rfl rfl rfl rfl ?_
  refine w_mv (pc1 := 86) (st1 := [.ref 9]) rfl rfl rfl ?_
  refine w_mv (pc1 := 87) (st1 := [.int 0, .ref 9]) rfl rfl rfl ?_
  refine w_st (pc1 := 90) (st1 := []) (hs1 := sH_53 L xs) (dc1 := 0) (ds1 := 0) (dc2 := 26) (ds2 := 760) rfl rfl rfl rfl rfl ?_
  exact hk
set_option maxRecDepth 20000 in
set_option maxHeartbeats 4000000 in
theorem s_ctN_4 (L : Nat) (xs : Nat → Int32) {P : Option Value ⊕ Nat → sx_H → Nat → Nat → Prop} (hk : P (.inl none) (sH_53 L xs) 26 760) : s_wp 518 sM_2 90 [(1, .int 4), (0, .ref 9)] [] (sH_53 L xs) 26 760 P := by
  refine w_mv (pc1 := 91) (st1 := [.ref 9]) rfl rfl rfl ?_
  refine w_mv (pc1 := 92) (st1 := [.int 0, .ref 9]) rfl rfl rfl ?_
  refine w_st (pc1 := 95) (st1 := []) (hs1 := sH_53 L xs) (dc1 := 0) (ds1 := 0) (dc2 := 26) (ds2 := 760) rfl rfl rfl rfl rfl ?_
  exact sx_wp.stop rfl rfl rfl hk
set_option maxRecDepth 20000 in
set_option maxHeartbeats 4000000 in
theorem s_ctC (L : Nat) (xs : Nat → Int32) {P : Option Value ⊕ Nat → sx_H → Nat → Nat → Prop} (hk : P (.inl none) (sH_58 L xs) 28 780) : s_wp 519 sM_0 0 [(0, .ref 5)] [] (sH_1 L xs) 1 5 P := by
  refine w_mv (pc1 := 1) (st1 := [.ref 5]) rfl rfl rfl ?_
  refine w_obj (pc1 := 4) (st1 := []) rfl rfl rfl (by decide) rfl ?_
  refine w_mv (pc1 := 5) (st1 := [.ref 5]) rfl rfl rfl ?_
  refine w_st (pc1 := 8) (st1 := [.ref 6, .ref 5]) (hs1 := sH_2 L xs) (dc1 := 1) (ds1 := 3) (dc2 := 2) (ds2 := 8) rfl rfl rfl rfl rfl ?_
  refine w_mv (pc1 := 9) (st1 := [.ref 6, .ref 6, .ref 5]) rfl rfl rfl ?_
  refine w_call (M' := sM_1) (vals := [.ref 6]) (rest := [.ref 6, .ref 5]) (lv' := [(0, .ref 6)]) rfl rfl rfl rfl rfl rfl rfl rfl rfl rfl ?_
  refine w_mv (pc1 := 1) (st1 := [.ref 6]) rfl rfl rfl ?_
  refine w_obj (pc1 := 4) (st1 := []) rfl rfl rfl (by decide) rfl ?_
  refine w_mv (pc1 := 5) (st1 := [.ref 6]) rfl rfl rfl ?_
  refine w_mv (pc1 := 7) (st1 := [.int 48, .ref 6]) rfl rfl rfl ?_
  refine w_st (pc1 := 9) (st1 := [.ref 7, .ref 6]) (hs1 := sH_3 L xs) (dc1 := 1) (ds1 := 48) (dc2 := 3) (ds2 := 56) rfl rfl rfl rfl rfl ?_
  refine w_st (pc1 := 12) (st1 := []) (hs1 := sH_4 L xs) (dc1 := 0) (ds1 := 0) (dc2 := 3) (ds2 := 56) rfl rfl rfl rfl rfl ?_
  refine w_vret (pc1 := 12) rfl rfl rfl ?_
  refine w_st (pc1 := 15) (st1 := []) (hs1 := sH_5 L xs) (dc1 := 0) (ds1 := 0) (dc2 := 3) (ds2 := 56) rfl rfl rfl rfl rfl ?_
  refine w_mv (pc1 := 16) (st1 := [.ref 5]) rfl rfl rfl ?_
  refine w_mv (pc1 := 17) (st1 := [.int (-1), .ref 5]) rfl rfl rfl ?_
  refine w_st (pc1 := 20) (st1 := []) (hs1 := sH_6 L xs) (dc1 := 0) (ds1 := 0) (dc2 := 3) (ds2 := 56) rfl rfl rfl rfl rfl ?_
  refine w_mv (pc1 := 21) (st1 := [.ref 5]) rfl rfl rfl ?_
  refine w_st (pc1 := 24) (st1 := [.ref 8, .ref 5]) (hs1 := sH_7 L xs) (dc1 := 1) (ds1 := 3) (dc2 := 4) (ds2 := 59) rfl rfl rfl rfl rfl ?_
  refine w_mv (pc1 := 25) (st1 := [.ref 8, .ref 8, .ref 5]) rfl rfl rfl ?_
  refine w_call (M' := sM_160) (vals := [.ref 8]) (rest := [.ref 8, .ref 5]) (lv' := [(0, .ref 8)]) rfl rfl rfl rfl rfl rfl rfl rfl rfl rfl ?_
  refine w_mv (pc1 := 1) (st1 := [.ref 8]) rfl rfl rfl ?_
  refine w_call (M' := sM_161) (vals := [.ref 8]) (rest := []) (lv' := [(0, .ref 8)]) rfl rfl rfl rfl rfl rfl rfl rfl rfl rfl ?_
  refine w_mv (pc1 := 1) (st1 := [.ref 8]) rfl rfl rfl ?_
  refine w_call (M' := sM_162) (vals := [.ref 8]) (rest := []) (lv' := [(0, .ref 8)]) rfl rfl rfl rfl rfl rfl rfl rfl rfl rfl ?_
  refine w_mv (pc1 := 1) (st1 := [.ref 8]) rfl rfl rfl ?_
  refine w_obj (pc1 := 4) (st1 := []) rfl rfl rfl (by decide) rfl ?_
  refine w_vret (pc1 := 4) rfl rfl rfl ?_
  refine w_mv (pc1 := 5) (st1 := [.ref 8]) rfl rfl rfl ?_
  refine w_mv (pc1 := 6) (st1 := [.int 0, .ref 8]) rfl rfl rfl ?_
  refine w_st (pc1 := 9) (st1 := []) (hs1 := sH_7 L xs) (dc1 := 0) (ds1 := 0) (dc2 := 4) (ds2 := 59) rfl rfl rfl rfl rfl ?_
  refine w_vret (pc1 := 4) rfl rfl rfl ?_
  refine w_mv (pc1 := 5) (st1 := [.ref 8]) rfl rfl rfl ?_
  refine w_mv (pc1 := 8) (st1 := [.ref 1, .ref 8]) rfl rfl rfl ?_
  refine w_st (pc1 := 11) (st1 := []) (hs1 := sH_8 L xs) (dc1 := 0) (ds1 := 0) (dc2 := 4) (ds2 := 59) rfl rfl rfl rfl rfl ?_
  refine w_vret (pc1 := 28) rfl rfl rfl ?_
  refine w_st (pc1 := 31) (st1 := []) (hs1 := sH_9 L xs) (dc1 := 0) (ds1 := 0) (dc2 := 4) (ds2 := 59) rfl rfl rfl rfl rfl ?_
  refine w_mv (pc1 := 32) (st1 := [.ref 5]) rfl rfl rfl ?_
  refine w_st (pc1 := 35) (st1 := [.ref 9, .ref 5]) (hs1 := sH_10 L xs) (dc1 := 1) (ds1 := 8) (dc2 := 5) (ds2 := 67) rfl rfl rfl rfl rfl ?_
  refine w_mv (pc1 := 36) (st1 := [.ref 9, .ref 9, .ref 5]) rfl rfl rfl ?_
  refine w_call (M' := sM_2) (vals := [.ref 9]) (rest := [.ref 9, .ref 5]) (lv' := [(0, .ref 9)]) rfl rfl rfl rfl rfl rfl rfl rfl rfl rfl ?_
  refine s_ctN_0 L xs (s_ctN_1 L xs (s_ctN_2 L xs (s_ctN_3 L xs (s_ctN_4 L xs ?_))))
  refine w_kv (pc1 := 39) rfl ?_
  refine w_st (pc1 := 42) (st1 := []) (hs1 := sH_54 L xs) (dc1 := 0) (ds1 := 0) (dc2 := 26) (ds2 := 760) rfl rfl rfl rfl rfl ?_
  refine w_mv (pc1 := 43) (st1 := [.ref 5]) rfl rfl rfl ?_
  refine w_st (pc1 := 46) (st1 := [.ref 31, .ref 5]) (hs1 := sH_55 L xs) (dc1 := 1) (ds1 := 4) (dc2 := 27) (ds2 := 764) rfl rfl rfl rfl rfl ?_
  refine w_mv (pc1 := 47) (st1 := [.ref 31, .ref 31, .ref 5]) rfl rfl rfl ?_
  refine w_call (M' := sM_163) (vals := [.ref 31]) (rest := [.ref 31, .ref 5]) (lv' := [(0, .ref 31)]) rfl rfl rfl rfl rfl rfl rfl rfl rfl rfl ?_
  refine w_mv (pc1 := 1) (st1 := [.ref 31]) rfl rfl rfl ?_
  refine w_mv (pc1 := 3) (st1 := [.int 16, .ref 31]) rfl rfl rfl ?_
  refine w_call (M' := sM_164) (vals := [.ref 31, .int 16]) (rest := []) (lv' := [(0, .ref 31), (1, .int 16)]) rfl rfl rfl rfl rfl rfl rfl rfl rfl rfl ?_
  refine w_mv (pc1 := 1) (st1 := [.ref 31]) rfl rfl rfl ?_
  refine w_obj (pc1 := 4) (st1 := []) rfl rfl rfl (by decide) rfl ?_
  refine w_mv (pc1 := 7) (st1 := [.int 1]) rfl rfl rfl ?_
  refine w_mv (pc1 := 10) (st1 := []) rfl rfl rfl ?_
  refine w_mv (pc1 := 11) (st1 := [.ref 31]) rfl rfl rfl ?_
  refine w_mv (pc1 := 12) (st1 := [.int 16, .ref 31]) rfl rfl rfl ?_
  refine w_st (pc1 := 14) (st1 := [.ref 32, .ref 31]) (hs1 := sH_56 L xs) (dc1 := 1) (ds1 := 16) (dc2 := 28) (ds2 := 780) rfl rfl rfl rfl rfl ?_
  refine w_st (pc1 := 17) (st1 := []) (hs1 := sH_57 L xs) (dc1 := 0) (ds1 := 0) (dc2 := 28) (ds2 := 780) rfl rfl rfl rfl rfl ?_
  refine w_mv (pc1 := 18) (st1 := [.ref 31]) rfl rfl rfl ?_
  refine w_mv (pc1 := 19) (st1 := [.int 0, .ref 31]) rfl rfl rfl ?_
  refine w_st (pc1 := 22) (st1 := []) (hs1 := sH_57 L xs) (dc1 := 0) (ds1 := 0) (dc2 := 28) (ds2 := 780) rfl rfl rfl rfl rfl ?_
  refine w_mv (pc1 := 38) (st1 := []) rfl rfl rfl ?_
  refine w_vret (pc1 := 6) rfl rfl rfl ?_
  refine w_vret (pc1 := 50) rfl rfl rfl ?_
  refine w_st (pc1 := 53) (st1 := []) (hs1 := sH_58 L xs) (dc1 := 0) (ds1 := 0) (dc2 := 28) (ds2 := 780) rfl rfl rfl rfl rfl ?_
  exact sx_wp.stop rfl rfl rfl hk
set_option maxRecDepth 20000 in
set_option maxHeartbeats 4000000 in
theorem s_ctM_0 (L : Nat) (xs : Nat → Int32) {P : Option Value ⊕ Nat → sx_H → Nat → Nat → Prop} (hk : s_wp 519 sM_108 81 [(0, .ref 33)] [.ref 42, .ref 33] (sH_77 L xs) 38 53579 P) : s_wp 519 sM_108 0 [(0, .ref 33)] [] (sH_59 L xs) 29 827 P := by
  refine w_mv (pc1 := 1) (st1 := [.ref 33]) rfl rfl rfl ?_
  refine w_obj (pc1 := 4) (st1 := []) rfl rfl rfl (by decide) rfl ?_
  refine w_mv (pc1 := 5) (st1 := [.ref 33]) rfl rfl rfl ?_
  refine w_mv (pc1 := 7) (st1 := [.int 48, .ref 33]) rfl rfl rfl ?_
  refine w_st (pc1 := 9) (st1 := [.ref 34, .ref 33]) (hs1 := sH_60 L xs) (dc1 := 1) (ds1 := 48) (dc2 := 30) (ds2 := 875) rfl rfl rfl rfl rfl ?_
  refine w_st (pc1 := 12) (st1 := []) (hs1 := sH_61 L xs) (dc1 := 0) (ds1 := 0) (dc2 := 30) (ds2 := 875) rfl rfl rfl rfl rfl ?_
  refine w_mv (pc1 := 13) (st1 := [.ref 33]) rfl rfl rfl ?_
  refine w_mv (pc1 := 16) (st1 := [.int 624, .ref 33]) rfl rfl rfl ?_
  refine w_st (pc1 := 18) (st1 := [.ref 35, .ref 33]) (hs1 := sH_62 L xs) (dc1 := 1) (ds1 := 624) (dc2 := 31) (ds2 := 1499) rfl rfl rfl rfl rfl ?_
  refine w_st (pc1 := 21) (st1 := []) (hs1 := sH_63 L xs) (dc1 := 0) (ds1 := 0) (dc2 := 31) (ds2 := 1499) rfl rfl rfl rfl rfl ?_
  refine w_mv (pc1 := 22) (st1 := [.ref 33]) rfl rfl rfl ?_
  refine w_mv (pc1 := 24) (st1 := [.int 12, .ref 33]) rfl rfl rfl ?_
  refine w_st (pc1 := 26) (st1 := [.ref 36, .ref 33]) (hs1 := sH_64 L xs) (dc1 := 1) (ds1 := 12) (dc2 := 32) (ds2 := 1511) rfl rfl rfl rfl rfl ?_
  refine w_st (pc1 := 29) (st1 := []) (hs1 := sH_65 L xs) (dc1 := 0) (ds1 := 0) (dc2 := 32) (ds2 := 1511) rfl rfl rfl rfl rfl ?_
  refine w_mv (pc1 := 30) (st1 := [.ref 33]) rfl rfl rfl ?_
  refine w_mv (pc1 := 32) (st1 := [.int 8, .ref 33]) rfl rfl rfl ?_
  refine w_st (pc1 := 34) (st1 := [.ref 37, .ref 33]) (hs1 := sH_66 L xs) (dc1 := 1) (ds1 := 8) (dc2 := 33) (ds2 := 1519) rfl rfl rfl rfl rfl ?_
  refine w_st (pc1 := 37) (st1 := []) (hs1 := sH_67 L xs) (dc1 := 0) (ds1 := 0) (dc2 := 33) (ds2 := 1519) rfl rfl rfl rfl rfl ?_
  refine w_mv (pc1 := 38) (st1 := [.ref 33]) rfl rfl rfl ?_
  refine w_mv (pc1 := 40) (st1 := [.int 8, .ref 33]) rfl rfl rfl ?_
  refine w_st (pc1 := 42) (st1 := [.ref 38, .ref 33]) (hs1 := sH_68 L xs) (dc1 := 1) (ds1 := 8) (dc2 := 34) (ds2 := 1527) rfl rfl rfl rfl rfl ?_
  refine w_st (pc1 := 45) (st1 := []) (hs1 := sH_69 L xs) (dc1 := 0) (ds1 := 0) (dc2 := 34) (ds2 := 1527) rfl rfl rfl rfl rfl ?_
  refine w_mv (pc1 := 46) (st1 := [.ref 33]) rfl rfl rfl ?_
  refine w_mv (pc1 := 48) (st1 := [.int 26, .ref 33]) rfl rfl rfl ?_
  refine w_st (pc1 := 50) (st1 := [.ref 39, .ref 33]) (hs1 := sH_70 L xs) (dc1 := 1) (ds1 := 26) (dc2 := 35) (ds2 := 1553) rfl rfl rfl rfl rfl ?_
  refine w_st (pc1 := 53) (st1 := []) (hs1 := sH_71 L xs) (dc1 := 0) (ds1 := 0) (dc2 := 35) (ds2 := 1553) rfl rfl rfl rfl rfl ?_
  refine w_mv (pc1 := 54) (st1 := [.ref 33]) rfl rfl rfl ?_
  refine w_mv (pc1 := 56) (st1 := [.int 26, .ref 33]) rfl rfl rfl ?_
  refine w_st (pc1 := 58) (st1 := [.ref 40, .ref 33]) (hs1 := sH_72 L xs) (dc1 := 1) (ds1 := 26) (dc2 := 36) (ds2 := 1579) rfl rfl rfl rfl rfl ?_
  refine w_st (pc1 := 61) (st1 := []) (hs1 := sH_73 L xs) (dc1 := 0) (ds1 := 0) (dc2 := 36) (ds2 := 1579) rfl rfl rfl rfl rfl ?_
  refine w_mv (pc1 := 62) (st1 := [.ref 33]) rfl rfl rfl ?_
  refine w_mv (pc1 := 63) (st1 := [.int (-1), .ref 33]) rfl rfl rfl ?_
  refine w_st (pc1 := 66) (st1 := []) (hs1 := sH_74 L xs) (dc1 := 0) (ds1 := 0) (dc2 := 36) (ds2 := 1579) rfl rfl rfl rfl rfl ?_
  refine w_mv (pc1 := 67) (st1 := [.ref 33]) rfl rfl rfl ?_
  refine w_mv (pc1 := 70) (st1 := [.int 26000, .ref 33]) rfl rfl rfl ?_
  refine w_st (pc1 := 72) (st1 := [.ref 41, .ref 33]) (hs1 := sH_75 L xs) (dc1 := 1) (ds1 := 26000) (dc2 := 37) (ds2 := 27579) rfl rfl rfl rfl rfl ?_
  refine w_st (pc1 := 75) (st1 := []) (hs1 := sH_76 L xs) (dc1 := 0) (ds1 := 0) (dc2 := 37) (ds2 := 27579) rfl rfl rfl rfl rfl ?_
  refine w_mv (pc1 := 76) (st1 := [.ref 33]) rfl rfl rfl ?_
  refine w_mv (pc1 := 79) (st1 := [.int 26000, .ref 33]) rfl rfl rfl ?_
  refine w_st (pc1 := 81) (st1 := [.ref 42, .ref 33]) (hs1 := sH_77 L xs) (dc1 := 1) (ds1 := 26000) (dc2 := 38) (ds2 := 53579) rfl rfl rfl rfl rfl ?_
  exact hk
set_option maxRecDepth 20000 in
set_option maxHeartbeats 4000000 in
theorem s_ctM_1 (L : Nat) (xs : Nat → Int32) {P : Option Value ⊕ Nat → sx_H → Nat → Nat → Prop} (hk : s_wp 519 sM_108 162 [(0, .ref 33)] [.ref 52, .ref 33] (sH_97 L xs) 48 144067 P) : s_wp 519 sM_108 81 [(0, .ref 33)] [.ref 42, .ref 33] (sH_77 L xs) 38 53579 P := by
  refine w_st (pc1 := 84) (st1 := []) (hs1 := sH_78 L xs) (dc1 := 0) (ds1 := 0) (dc2 := 38) (ds2 := 53579) rfl rfl rfl rfl rfl ?_
  refine w_mv (pc1 := 85) (st1 := [.ref 33]) rfl rfl rfl ?_
  refine w_mv (pc1 := 87) (st1 := [.int 78000, .ref 33]) rfl rfl rfl ?_
  refine w_st (pc1 := 89) (st1 := [.ref 43, .ref 33]) (hs1 := sH_79 L xs) (dc1 := 1) (ds1 := 78000) (dc2 := 39) (ds2 := 131579) rfl rfl rfl rfl rfl ?_
  refine w_st (pc1 := 92) (st1 := []) (hs1 := sH_80 L xs) (dc1 := 0) (ds1 := 0) (dc2 := 39) (ds2 := 131579) rfl rfl rfl rfl rfl ?_
  refine w_mv (pc1 := 93) (st1 := [.ref 33]) rfl rfl rfl ?_
  refine w_mv (pc1 := 96) (st1 := [.int 12000, .ref 33]) rfl rfl rfl ?_
  refine w_st (pc1 := 98) (st1 := [.ref 44, .ref 33]) (hs1 := sH_81 L xs) (dc1 := 1) (ds1 := 12000) (dc2 := 40) (ds2 := 143579) rfl rfl rfl rfl rfl ?_
  refine w_st (pc1 := 101) (st1 := []) (hs1 := sH_82 L xs) (dc1 := 0) (ds1 := 0) (dc2 := 40) (ds2 := 143579) rfl rfl rfl rfl rfl ?_
  refine w_mv (pc1 := 102) (st1 := [.ref 33]) rfl rfl rfl ?_
  refine w_mv (pc1 := 104) (st1 := [.int 61, .ref 33]) rfl rfl rfl ?_
  refine w_st (pc1 := 106) (st1 := [.ref 45, .ref 33]) (hs1 := sH_83 L xs) (dc1 := 1) (ds1 := 61) (dc2 := 41) (ds2 := 143640) rfl rfl rfl rfl rfl ?_
  refine w_st (pc1 := 109) (st1 := []) (hs1 := sH_84 L xs) (dc1 := 0) (ds1 := 0) (dc2 := 41) (ds2 := 143640) rfl rfl rfl rfl rfl ?_
  refine w_mv (pc1 := 110) (st1 := [.ref 33]) rfl rfl rfl ?_
  refine w_mv (pc1 := 112) (st1 := [.int 61, .ref 33]) rfl rfl rfl ?_
  refine w_st (pc1 := 114) (st1 := [.ref 46, .ref 33]) (hs1 := sH_85 L xs) (dc1 := 1) (ds1 := 61) (dc2 := 42) (ds2 := 143701) rfl rfl rfl rfl rfl ?_
  refine w_st (pc1 := 117) (st1 := []) (hs1 := sH_86 L xs) (dc1 := 0) (ds1 := 0) (dc2 := 42) (ds2 := 143701) rfl rfl rfl rfl rfl ?_
  refine w_mv (pc1 := 118) (st1 := [.ref 33]) rfl rfl rfl ?_
  refine w_mv (pc1 := 120) (st1 := [.int 61, .ref 33]) rfl rfl rfl ?_
  refine w_st (pc1 := 122) (st1 := [.ref 47, .ref 33]) (hs1 := sH_87 L xs) (dc1 := 1) (ds1 := 61) (dc2 := 43) (ds2 := 143762) rfl rfl rfl rfl rfl ?_
  refine w_st (pc1 := 125) (st1 := []) (hs1 := sH_88 L xs) (dc1 := 0) (ds1 := 0) (dc2 := 43) (ds2 := 143762) rfl rfl rfl rfl rfl ?_
  refine w_mv (pc1 := 126) (st1 := [.ref 33]) rfl rfl rfl ?_
  refine w_mv (pc1 := 128) (st1 := [.int 61, .ref 33]) rfl rfl rfl ?_
  refine w_st (pc1 := 130) (st1 := [.ref 48, .ref 33]) (hs1 := sH_89 L xs) (dc1 := 1) (ds1 := 61) (dc2 := 44) (ds2 := 143823) rfl rfl rfl rfl rfl ?_
  refine w_st (pc1 := 133) (st1 := []) (hs1 := sH_90 L xs) (dc1 := 0) (ds1 := 0) (dc2 := 44) (ds2 := 143823) rfl rfl rfl rfl rfl ?_
  refine w_mv (pc1 := 134) (st1 := [.ref 33]) rfl rfl rfl ?_
  refine w_mv (pc1 := 136) (st1 := [.int 61, .ref 33]) rfl rfl rfl ?_
  refine w_st (pc1 := 138) (st1 := [.ref 49, .ref 33]) (hs1 := sH_91 L xs) (dc1 := 1) (ds1 := 61) (dc2 := 45) (ds2 := 143884) rfl rfl rfl rfl rfl ?_
  refine w_st (pc1 := 141) (st1 := []) (hs1 := sH_92 L xs) (dc1 := 0) (ds1 := 0) (dc2 := 45) (ds2 := 143884) rfl rfl rfl rfl rfl ?_
  refine w_mv (pc1 := 142) (st1 := [.ref 33]) rfl rfl rfl ?_
  refine w_mv (pc1 := 144) (st1 := [.int 61, .ref 33]) rfl rfl rfl ?_
  refine w_st (pc1 := 146) (st1 := [.ref 50, .ref 33]) (hs1 := sH_93 L xs) (dc1 := 1) (ds1 := 61) (dc2 := 46) (ds2 := 143945) rfl rfl rfl rfl rfl ?_
  refine w_st (pc1 := 149) (st1 := []) (hs1 := sH_94 L xs) (dc1 := 0) (ds1 := 0) (dc2 := 46) (ds2 := 143945) rfl rfl rfl rfl rfl ?_
  refine w_mv (pc1 := 150) (st1 := [.ref 33]) rfl rfl rfl ?_
  refine w_mv (pc1 := 152) (st1 := [.int 61, .ref 33]) rfl rfl rfl ?_
  refine w_st (pc1 := 154) (st1 := [.ref 51, .ref 33]) (hs1 := sH_95 L xs) (dc1 := 1) (ds1 := 61) (dc2 := 47) (ds2 := 144006) rfl rfl rfl rfl rfl ?_
  refine w_st (pc1 := 157) (st1 := []) (hs1 := sH_96 L xs) (dc1 := 0) (ds1 := 0) (dc2 := 47) (ds2 := 144006) rfl rfl rfl rfl rfl ?_
  refine w_mv (pc1 := 158) (st1 := [.ref 33]) rfl rfl rfl ?_
  refine w_mv (pc1 := 160) (st1 := [.int 61, .ref 33]) rfl rfl rfl ?_
  refine w_st (pc1 := 162) (st1 := [.ref 52, .ref 33]) (hs1 := sH_97 L xs) (dc1 := 1) (ds1 := 61) (dc2 := 48) (ds2 := 144067) rfl rfl rfl rfl rfl ?_
  exact hk
set_option maxRecDepth 20000 in
set_option maxHeartbeats 4000000 in
theorem s_ctM_2 (L : Nat) (xs : Nat → Int32) {P : Option Value ⊕ Nat → sx_H → Nat → Nat → Prop} (hk : s_wp 519 sM_108 245 [(0, .ref 33)] [.ref 62, .ref 33] (sH_117 L xs) 58 145740 P) : s_wp 519 sM_108 162 [(0, .ref 33)] [.ref 52, .ref 33] (sH_97 L xs) 48 144067 P := by
  refine w_st (pc1 := 165) (st1 := []) (hs1 := sH_98 L xs) (dc1 := 0) (ds1 := 0) (dc2 := 48) (ds2 := 144067) rfl rfl rfl rfl rfl ?_
  refine w_mv (pc1 := 166) (st1 := [.ref 33]) rfl rfl rfl ?_
  refine w_mv (pc1 := 169) (st1 := [.int 854, .ref 33]) rfl rfl rfl ?_
  refine w_st (pc1 := 171) (st1 := [.ref 53, .ref 33]) (hs1 := sH_99 L xs) (dc1 := 1) (ds1 := 854) (dc2 := 49) (ds2 := 144921) rfl rfl rfl rfl rfl ?_
  refine w_st (pc1 := 174) (st1 := []) (hs1 := sH_100 L xs) (dc1 := 0) (ds1 := 0) (dc2 := 49) (ds2 := 144921) rfl rfl rfl rfl rfl ?_
  refine w_mv (pc1 := 175) (st1 := [.ref 33]) rfl rfl rfl ?_
  refine w_mv (pc1 := 178) (st1 := [.int 244, .ref 33]) rfl rfl rfl ?_
  refine w_st (pc1 := 180) (st1 := [.ref 54, .ref 33]) (hs1 := sH_101 L xs) (dc1 := 1) (ds1 := 244) (dc2 := 50) (ds2 := 145165) rfl rfl rfl rfl rfl ?_
  refine w_st (pc1 := 183) (st1 := []) (hs1 := sH_102 L xs) (dc1 := 0) (ds1 := 0) (dc2 := 50) (ds2 := 145165) rfl rfl rfl rfl rfl ?_
  refine w_mv (pc1 := 184) (st1 := [.ref 33]) rfl rfl rfl ?_
  refine w_mv (pc1 := 185) (st1 := [.int 4, .ref 33]) rfl rfl rfl ?_
  refine w_st (pc1 := 187) (st1 := [.ref 55, .ref 33]) (hs1 := sH_103 L xs) (dc1 := 1) (ds1 := 4) (dc2 := 51) (ds2 := 145169) rfl rfl rfl rfl rfl ?_
  refine w_st (pc1 := 190) (st1 := []) (hs1 := sH_104 L xs) (dc1 := 0) (ds1 := 0) (dc2 := 51) (ds2 := 145169) rfl rfl rfl rfl rfl ?_
  refine w_mv (pc1 := 191) (st1 := [.ref 33]) rfl rfl rfl ?_
  refine w_mv (pc1 := 193) (st1 := [.int 14, .ref 33]) rfl rfl rfl ?_
  refine w_st (pc1 := 195) (st1 := [.ref 56, .ref 33]) (hs1 := sH_105 L xs) (dc1 := 1) (ds1 := 14) (dc2 := 52) (ds2 := 145183) rfl rfl rfl rfl rfl ?_
  refine w_st (pc1 := 198) (st1 := []) (hs1 := sH_106 L xs) (dc1 := 0) (ds1 := 0) (dc2 := 52) (ds2 := 145183) rfl rfl rfl rfl rfl ?_
  refine w_mv (pc1 := 199) (st1 := [.ref 33]) rfl rfl rfl ?_
  refine w_mv (pc1 := 201) (st1 := [.int 61, .ref 33]) rfl rfl rfl ?_
  refine w_st (pc1 := 203) (st1 := [.ref 57, .ref 33]) (hs1 := sH_107 L xs) (dc1 := 1) (ds1 := 61) (dc2 := 53) (ds2 := 145244) rfl rfl rfl rfl rfl ?_
  refine w_st (pc1 := 206) (st1 := []) (hs1 := sH_108 L xs) (dc1 := 0) (ds1 := 0) (dc2 := 53) (ds2 := 145244) rfl rfl rfl rfl rfl ?_
  refine w_mv (pc1 := 207) (st1 := [.ref 33]) rfl rfl rfl ?_
  refine w_mv (pc1 := 210) (st1 := [.int 200, .ref 33]) rfl rfl rfl ?_
  refine w_st (pc1 := 212) (st1 := [.ref 58, .ref 33]) (hs1 := sH_109 L xs) (dc1 := 1) (ds1 := 200) (dc2 := 54) (ds2 := 145444) rfl rfl rfl rfl rfl ?_
  refine w_st (pc1 := 215) (st1 := []) (hs1 := sH_110 L xs) (dc1 := 0) (ds1 := 0) (dc2 := 54) (ds2 := 145444) rfl rfl rfl rfl rfl ?_
  refine w_mv (pc1 := 216) (st1 := [.ref 33]) rfl rfl rfl ?_
  refine w_mv (pc1 := 219) (st1 := [.int 200, .ref 33]) rfl rfl rfl ?_
  refine w_st (pc1 := 221) (st1 := [.ref 59, .ref 33]) (hs1 := sH_111 L xs) (dc1 := 1) (ds1 := 200) (dc2 := 55) (ds2 := 145644) rfl rfl rfl rfl rfl ?_
  refine w_st (pc1 := 224) (st1 := []) (hs1 := sH_112 L xs) (dc1 := 0) (ds1 := 0) (dc2 := 55) (ds2 := 145644) rfl rfl rfl rfl rfl ?_
  refine w_mv (pc1 := 225) (st1 := [.ref 33]) rfl rfl rfl ?_
  refine w_mv (pc1 := 227) (st1 := [.int 8, .ref 33]) rfl rfl rfl ?_
  refine w_st (pc1 := 229) (st1 := [.ref 60, .ref 33]) (hs1 := sH_113 L xs) (dc1 := 1) (ds1 := 8) (dc2 := 56) (ds2 := 145652) rfl rfl rfl rfl rfl ?_
  refine w_st (pc1 := 232) (st1 := []) (hs1 := sH_114 L xs) (dc1 := 0) (ds1 := 0) (dc2 := 56) (ds2 := 145652) rfl rfl rfl rfl rfl ?_
  refine w_mv (pc1 := 233) (st1 := [.ref 33]) rfl rfl rfl ?_
  refine w_mv (pc1 := 235) (st1 := [.int 8, .ref 33]) rfl rfl rfl ?_
  refine w_st (pc1 := 237) (st1 := [.ref 61, .ref 33]) (hs1 := sH_115 L xs) (dc1 := 1) (ds1 := 8) (dc2 := 57) (ds2 := 145660) rfl rfl rfl rfl rfl ?_
  refine w_st (pc1 := 240) (st1 := []) (hs1 := sH_116 L xs) (dc1 := 0) (ds1 := 0) (dc2 := 57) (ds2 := 145660) rfl rfl rfl rfl rfl ?_
  refine w_mv (pc1 := 241) (st1 := [.ref 33]) rfl rfl rfl ?_
  refine w_mv (pc1 := 243) (st1 := [.int 80, .ref 33]) rfl rfl rfl ?_
  refine w_st (pc1 := 245) (st1 := [.ref 62, .ref 33]) (hs1 := sH_117 L xs) (dc1 := 1) (ds1 := 80) (dc2 := 58) (ds2 := 145740) rfl rfl rfl rfl rfl ?_
  exact hk
set_option maxRecDepth 20000 in
set_option maxHeartbeats 4000000 in
theorem s_ctM_3 (L : Nat) (xs : Nat → Int32) {P : Option Value ⊕ Nat → sx_H → Nat → Nat → Prop} (hk : P (.inl none) (sH_120 L xs) 59 146540) : s_wp 519 sM_108 245 [(0, .ref 33)] [.ref 62, .ref 33] (sH_117 L xs) 58 145740 P := by
  refine w_st (pc1 := 248) (st1 := []) (hs1 := sH_118 L xs) (dc1 := 0) (ds1 := 0) (dc2 := 58) (ds2 := 145740) rfl rfl rfl rfl rfl ?_
  refine w_mv (pc1 := 249) (st1 := [.ref 33]) rfl rfl rfl ?_
  refine w_mv (pc1 := 252) (st1 := [.int 800, .ref 33]) rfl rfl rfl ?_
  refine w_st (pc1 := 254) (st1 := [.ref 63, .ref 33]) (hs1 := sH_119 L xs) (dc1 := 1) (ds1 := 800) (dc2 := 59) (ds2 := 146540) rfl rfl rfl rfl rfl ?_
  refine w_st (pc1 := 257) (st1 := []) (hs1 := sH_120 L xs) (dc1 := 0) (ds1 := 0) (dc2 := 59) (ds2 := 146540) rfl rfl rfl rfl rfl ?_
  exact sx_wp.stop rfl rfl rfl hk
set_option maxRecDepth 20000 in
set_option maxHeartbeats 4000000 in
theorem s_ctor (L : Nat) (xs : Nat → Int32) {P : Option Value ⊕ Nat → sx_H → Nat → Nat → Prop} (hk : s_wp 520 sM_law 23 [(4, .int 0), (3, .ref 64), (2, .ref 33), (1, .ref 5), (0, .ref 0)] [] (sH_121 L xs) 60 146541 P) : s_wp 520 sM_law 0 [(0, .ref 0)] [] (s_h0 L xs) 0 0 P := by
  refine w_st (pc1 := 3) (st1 := [.ref 5]) (hs1 := sH_1 L xs) (dc1 := 1) (ds1 := 5) (dc2 := 1) (ds2 := 5) rfl rfl rfl rfl rfl ?_
  refine w_mv (pc1 := 4) (st1 := [.ref 5, .ref 5]) rfl rfl rfl ?_
  refine w_call (M' := sM_0) (vals := [.ref 5]) (rest := [.ref 5]) (lv' := [(0, .ref 5)]) rfl rfl rfl rfl rfl rfl rfl rfl rfl rfl ?_
  refine s_ctC L xs ?_
  refine w_kv (pc1 := 7) rfl ?_
  refine w_mv (pc1 := 8) (lv1 := [(1, .ref 5), (0, .ref 0)]) (st1 := []) rfl rfl rfl ?_
  refine w_st (pc1 := 11) (st1 := [.ref 33]) (hs1 := sH_59 L xs) (dc1 := 1) (ds1 := 47) (dc2 := 29) (ds2 := 827) rfl rfl rfl rfl rfl ?_
  refine w_mv (pc1 := 12) (st1 := [.ref 33, .ref 33]) rfl rfl rfl ?_
  refine w_call (M' := sM_108) (vals := [.ref 33]) (rest := [.ref 33]) (lv' := [(0, .ref 33)]) rfl rfl rfl rfl rfl rfl rfl rfl rfl rfl ?_
  refine s_ctM_0 L xs (s_ctM_1 L xs (s_ctM_2 L xs (s_ctM_3 L xs ?_)))
  refine w_kv (pc1 := 15) rfl ?_
  refine w_mv (pc1 := 16) (lv1 := [(2, .ref 33), (1, .ref 5), (0, .ref 0)]) (st1 := []) rfl rfl rfl ?_
  refine w_mv (pc1 := 17) (st1 := [.int 1]) rfl rfl rfl ?_
  refine w_st (pc1 := 19) (st1 := [.ref 64]) (hs1 := sH_121 L xs) (dc1 := 1) (ds1 := 1) (dc2 := 60) (ds2 := 146541) rfl rfl rfl rfl rfl ?_
  refine w_mv (pc1 := 20) (lv1 := [(3, .ref 64), (2, .ref 33), (1, .ref 5), (0, .ref 0)]) (st1 := []) rfl rfl rfl ?_
  refine w_mv (pc1 := 21) (st1 := [.int 0]) rfl rfl rfl ?_
  refine w_mv (pc1 := 23) (lv1 := [(4, .int 0), (3, .ref 64), (2, .ref 33), (1, .ref 5), (0, .ref 0)]) (st1 := []) rfl rfl rfl ?_
  exact hk
