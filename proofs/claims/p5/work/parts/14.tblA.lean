/-! THE TABLES of this claim (by program: wip/sx/emit_tbl.py) -/
def sT_0 : u_T := fun k => match k with
  | 0 => ("GuardNet", "reader", "LGuardNet$Reader;", true)
  | 1 => ("GuardNet", "place", "I", false)
  | 2 => ("GuardNet", "clauses", "Ljava/util/ArrayList;", true)
  | 3 => ("GuardNet", "network", "LGuardNet$Network;", true)
  | _ => ("GuardNet", "spelling", "Ljava/lang/StringBuilder;", true)
def sF_0 : Nat → FieldType := fun k => match k with
  | 0 => .object "GuardNet$Reader"
  | 1 => .int
  | 2 => .object "java/util/ArrayList"
  | 3 => .object "GuardNet$Network"
  | _ => .object "java/lang/StringBuilder"
def sT_1 : u_T := fun k => match k with
  | 0 => ("GuardNet$Reader", "text", "[B", true)
  | 1 => ("GuardNet$Reader", "length", "I", false)
  | _ => ("GuardNet$Reader", "at", "I", false)
def sF_1 : Nat → FieldType := fun k => match k with
  | 0 => .array (.byte)
  | 1 => .int
  | _ => .int
def sT_2 : u_T := fun k => match k with
  | 0 => ("GuardNet$Network", "use", "LGuardNet$Use;", true)
  | 1 => ("GuardNet$Network", "rows", "[LGuardNet$Row;", true)
  | 2 => ("GuardNet$Network", "asleep", "LGuardNet$Row;", true)
  | 3 => ("GuardNet$Network", "spare", "LGuardNet$Row;", true)
  | 4 => ("GuardNet$Network", "named", "[LGuardNet$Node;", true)
  | 5 => ("GuardNet$Network", "state", "I", false)
  | 6 => ("GuardNet$Network", "steps", "I", false)
  | _ => ("GuardNet$Network", "sleeps", "I", false)
def sF_2 : Nat → FieldType := fun k => match k with
  | 0 => .object "GuardNet$Use"
  | 1 => .array (.object "GuardNet$Row")
  | 2 => .object "GuardNet$Row"
  | 3 => .object "GuardNet$Row"
  | 4 => .array (.object "GuardNet$Node")
  | 5 => .int
  | 6 => .int
  | _ => .int
def sT_3 : u_T := fun k => match k with
  | 0 => ("GuardNet$Use", "store", "LGuardNet$Store;", true)
  | 1 => ("GuardNet$Use", "pairs", "LGuardNet$Pairs;", true)
  | 2 => ("GuardNet$Use", "nodes", "[LGuardNet$Node;", true)
  | 3 => ("GuardNet$Use", "met", "I", false)
  | _ => ("GuardNet$Use", "found", "LGuardNet$Node;", false)
def sF_3 : Nat → FieldType := fun k => match k with
  | 0 => .object "GuardNet$Store"
  | 1 => .object "GuardNet$Pairs"
  | 2 => .array (.object "GuardNet$Node")
  | 3 => .int
  | _ => .object "GuardNet$Node"
def sT_4 : u_T := fun k => match k with
  | 0 => ("GuardNet$Store", "nodes", "Ljava/util/ArrayList;", true)
  | 1 => ("GuardNet$Store", "used", "I", false)
  | _ => ("GuardNet$Store", "variables", "I", false)
def sF_4 : Nat → FieldType := fun k => match k with
  | 0 => .object "java/util/ArrayList"
  | 1 => .int
  | _ => .int
def sT_5 : u_T := fun k => match k with
  | 0 => ("GuardNet$Pairs", "lefts", "[LGuardNet$Node;", true)
  | 1 => ("GuardNet$Pairs", "rights", "[LGuardNet$Node;", true)
  | 2 => ("GuardNet$Pairs", "open", "I", false)
  | 3 => ("GuardNet$Pairs", "looked", "I", false)
  | 4 => ("GuardNet$Pairs", "left", "LGuardNet$Node;", false)
  | _ => ("GuardNet$Pairs", "right", "LGuardNet$Node;", false)
def sF_5 : Nat → FieldType := fun k => match k with
  | 0 => .array (.object "GuardNet$Node")
  | 1 => .array (.object "GuardNet$Node")
  | 2 => .int
  | 3 => .int
  | 4 => .object "GuardNet$Node"
  | _ => .object "GuardNet$Node"
def sT_6 : u_T := fun k => match k with
  | 0 => ("GuardNet$Row", "goals", "[LGuardNet$Goal;", true)
  | _ => ("GuardNet$Row", "size", "I", false)
def sF_6 : Nat → FieldType := fun k => match k with
  | 0 => .array (.object "GuardNet$Goal")
  | _ => .int
def sT_7 : u_T := fun k => match k with
  | 0 => ("GuardNet$Term", "kind", "I", true)
  | 1 => ("GuardNet$Term", "value", "I", true)
  | 2 => ("GuardNet$Term", "parts", "[LGuardNet$Term;", true)
  | 3 => ("GuardNet$Term", "size", "I", false)
  | _ => ("GuardNet$Term", "capitals", "I", false)
def sF_7 : Nat → FieldType := fun k => match k with
  | 0 => .int
  | 1 => .int
  | 2 => .array (.object "GuardNet$Term")
  | 3 => .int
  | _ => .int
def sT_8 : u_T := fun k => match k with
  | 0 => ("GuardNet$Clause", "head", "LGuardNet$Term;", true)
  | 1 => ("GuardNet$Clause", "guards", "Ljava/util/ArrayList;", true)
  | _ => ("GuardNet$Clause", "goals", "Ljava/util/ArrayList;", true)
def sF_8 : Nat → FieldType := fun k => match k with
  | 0 => .object "GuardNet$Term"
  | 1 => .object "java/util/ArrayList"
  | _ => .object "java/util/ArrayList"
def sT_9 : u_T := fun k => match k with
  | 0 => ("GuardNet$Item", "sign", "I", true)
  | 1 => ("GuardNet$Item", "level", "I", true)
  | 2 => ("GuardNet$Item", "first", "LGuardNet$Term;", true)
  | 3 => ("GuardNet$Item", "second", "LGuardNet$Term;", true)
  | _ => ("GuardNet$Item", "third", "LGuardNet$Term;", true)
def sF_9 : Nat → FieldType := fun k => match k with
  | 0 => .int
  | 1 => .int
  | 2 => .object "GuardNet$Term"
  | 3 => .object "GuardNet$Term"
  | _ => .object "GuardNet$Term"
def sT_10 : u_T := fun k => match k with
  | 0 => ("GuardNet$Node", "parts", "[LGuardNet$Node;", true)
  | 1 => ("GuardNet$Node", "kind", "I", false)
  | 2 => ("GuardNet$Node", "value", "I", false)
  | 3 => ("GuardNet$Node", "size", "I", false)
  | _ => ("GuardNet$Node", "written", "LGuardNet$Node;", false)
def sF_10 : Nat → FieldType := fun k => match k with
  | 0 => .array (.object "GuardNet$Node")
  | 1 => .int
  | 2 => .int
  | 3 => .int
  | _ => .object "GuardNet$Node"
def sT_11 : u_T := fun k => match k with
  | 0 => ("GuardNet$Goal", "sign", "I", false)
  | 1 => ("GuardNet$Goal", "level", "I", false)
  | 2 => ("GuardNet$Goal", "first", "LGuardNet$Node;", false)
  | 3 => ("GuardNet$Goal", "second", "LGuardNet$Node;", false)
  | 4 => ("GuardNet$Goal", "third", "LGuardNet$Node;", false)
  | 5 => ("GuardNet$Goal", "awaited", "[LGuardNet$Node;", true)
  | _ => ("GuardNet$Goal", "waits", "I", false)
def sF_11 : Nat → FieldType := fun k => match k with
  | 0 => .int
  | 1 => .int
  | 2 => .object "GuardNet$Node"
  | 3 => .object "GuardNet$Node"
  | 4 => .object "GuardNet$Node"
  | 5 => .array (.object "GuardNet$Node")
  | _ => .int
def sT_12 : u_T := fun k => match k with
  | 0 => ("GuardNetModel", "text", "[I", true)
  | 1 => ("GuardNetModel", "clause", "[I", true)
  | 2 => ("GuardNetModel", "clauseSize", "[I", true)
  | 3 => ("GuardNetModel", "open", "[I", true)
  | 4 => ("GuardNetModel", "many", "[I", true)
  | 5 => ("GuardNetModel", "map", "[I", true)
  | 6 => ("GuardNetModel", "question", "[I", true)
  | 7 => ("GuardNetModel", "size", "I", false)
  | 8 => ("GuardNetModel", "clauses", "I", false)
  | 9 => ("GuardNetModel", "place", "I", false)
  | 10 => ("GuardNetModel", "pos", "I", false)
  | 11 => ("GuardNetModel", "thrown", "I", false)
  | 12 => ("GuardNetModel", "source", "I", false)
  | 13 => ("GuardNetModel", "sourceEnd", "I", false)
  | 14 => ("GuardNetModel", "sign", "[I", true)
  | 15 => ("GuardNetModel", "count", "[I", true)
  | 16 => ("GuardNetModel", "argument", "[I", true)
  | 17 => ("GuardNetModel", "bind", "[I", true)
  | 18 => ("GuardNetModel", "kind", "[I", true)
  | 19 => ("GuardNetModel", "level", "[I", true)
  | 20 => ("GuardNetModel", "left", "[I", true)
  | 21 => ("GuardNetModel", "right", "[I", true)
  | 22 => ("GuardNetModel", "third", "[I", true)
  | 23 => ("GuardNetModel", "operator", "[I", true)
  | 24 => ("GuardNetModel", "stamp", "[I", true)
  | 25 => ("GuardNetModel", "sleeps", "[I", true)
  | 26 => ("GuardNetModel", "sleepOn", "[I", true)
  | 27 => ("GuardNetModel", "row", "[I", true)
  | 28 => ("GuardNetModel", "rowSize", "[I", true)
  | 29 => ("GuardNetModel", "found", "[I", true)
  | 30 => ("GuardNetModel", "used", "[Z", true)
  | 31 => ("GuardNetModel", "pairLeft", "[I", true)
  | 32 => ("GuardNetModel", "pairRight", "[I", true)
  | 33 => ("GuardNetModel", "node", "[I", true)
  | 34 => ("GuardNetModel", "index", "[I", true)
  | 35 => ("GuardNetModel", "written", "[I", true)
  | 36 => ("GuardNetModel", "pile", "[I", true)
  | 37 => ("GuardNetModel", "cells", "I", false)
  | 38 => ("GuardNetModel", "variables", "I", false)
  | 39 => ("GuardNetModel", "steps", "I", false)
  | 40 => ("GuardNetModel", "asleep", "I", false)
  | 41 => ("GuardNetModel", "naps", "I", false)
  | 42 => ("GuardNetModel", "status", "I", false)
  | 43 => ("GuardNetModel", "foundSize", "I", false)
  | 44 => ("GuardNetModel", "writtenSize", "I", false)
  | 45 => ("GuardNetModel", "pairs", "I", false)
  | _ => ("GuardNetModel", "pairsDone", "I", false)
def sF_12 : Nat → FieldType := fun k => match k with
  | 0 => .array (.int)
  | 1 => .array (.int)
  | 2 => .array (.int)
  | 3 => .array (.int)
  | 4 => .array (.int)
  | 5 => .array (.int)
  | 6 => .array (.int)
  | 7 => .int
  | 8 => .int
  | 9 => .int
  | 10 => .int
  | 11 => .int
  | 12 => .int
  | 13 => .int
  | 14 => .array (.int)
  | 15 => .array (.int)
  | 16 => .array (.int)
  | 17 => .array (.int)
  | 18 => .array (.int)
  | 19 => .array (.int)
  | 20 => .array (.int)
  | 21 => .array (.int)
  | 22 => .array (.int)
  | 23 => .array (.int)
  | 24 => .array (.int)
  | 25 => .array (.int)
  | 26 => .array (.int)
  | 27 => .array (.int)
  | 28 => .array (.int)
  | 29 => .array (.int)
  | 30 => .array (.boolean)
  | 31 => .array (.int)
  | 32 => .array (.int)
  | 33 => .array (.int)
  | 34 => .array (.int)
  | 35 => .array (.int)
  | 36 => .array (.int)
  | 37 => .int
  | 38 => .int
  | 39 => .int
  | 40 => .int
  | 41 => .int
  | 42 => .int
  | 43 => .int
  | 44 => .int
  | 45 => .int
  | _ => .int
def sT_13 : u_T := fun k => match k with
  | 0 => ("java/util/ArrayList", "elementData", "[Ljava/lang/Object;", false)
  | 1 => ("java/util/ArrayList", "size", "I", false)
  | _ => ("java/util/AbstractList", "modCount", "I", false)
def sF_13 : Nat → FieldType := fun k => match k with
  | 0 => .array (.object "java/lang/Object")
  | 1 => .int
  | _ => .int
def sT_14 : u_T := fun k => match k with
  | 0 => ("java/lang/AbstractStringBuilder", "value", "[B", false)
  | 1 => ("java/lang/AbstractStringBuilder", "coder", "B", false)
  | 2 => ("java/lang/AbstractStringBuilder", "maybeLatin1", "Z", false)
  | _ => ("java/lang/AbstractStringBuilder", "count", "I", false)
def sF_14 : Nat → FieldType := fun k => match k with
  | 0 => .array (.byte)
  | 1 => .byte
  | 2 => .boolean
  | _ => .int
def s_cl : List vw_C := [("GuardNet", sT_0, 5), ("GuardNet$Reader", sT_1, 3), ("GuardNet$Network", sT_2, 8), ("GuardNet$Use", sT_3, 5), ("GuardNet$Store", sT_4, 3), ("GuardNet$Pairs", sT_5, 6), ("GuardNet$Row", sT_6, 2), ("GuardNet$Term", sT_7, 5), ("GuardNet$Clause", sT_8, 3), ("GuardNet$Item", sT_9, 5), ("GuardNet$Node", sT_10, 5), ("GuardNet$Goal", sT_11, 7), ("GuardNetModel", sT_12, 47), ("java/util/ArrayList", sT_13, 3), ("java/lang/StringBuilder", sT_14, 4)]
def s_ft (ci : Nat) : Nat → FieldType := match ci with
  | 0 => sF_0
  | 1 => sF_1
  | 2 => sF_2
  | 3 => sF_3
  | 4 => sF_4
  | 5 => sF_5
  | 6 => sF_6
  | 7 => sF_7
  | 8 => sF_8
  | 9 => sF_9
  | 10 => sF_10
  | 11 => sF_11
  | 12 => sF_12
  | 13 => sF_13
  | _ => sF_14
def s_df (ci : Nat) : List Value := match ci with
  | 0 => [.null, .int 0, .null, .null, .null]
  | 1 => [.null, .int 0, .int 0]
  | 2 => [.null, .null, .null, .null, .null, .int 0, .int 0, .int 0]
  | 3 => [.null, .null, .null, .int 0, .null]
  | 4 => [.null, .int 0, .int 0]
  | 5 => [.null, .null, .int 0, .int 0, .null, .null]
  | 6 => [.null, .int 0]
  | 7 => [.int 0, .int 0, .null, .int 0, .int 0]
  | 8 => [.null, .null, .null]
  | 9 => [.int 0, .int 0, .null, .null, .null]
  | 10 => [.null, .int 0, .int 0, .int 0, .null]
  | 11 => [.int 0, .int 0, .null, .null, .null, .null, .int 0]
  | 12 => [.null, .null, .null, .null, .null, .null, .null, .int 0, .int 0, .int 0, .int 0, .int 0, .int 0, .int 0, .null, .null, .null, .null, .null, .null, .null, .null, .null, .null, .null, .null, .null, .null, .null, .null, .null, .null, .null, .null, .null, .null, .null, .int 0, .int 0, .int 0, .int 0, .int 0, .int 0, .int 0, .int 0, .int 0, .int 0]
  | 13 => [.null, .int 0, .int 0]
  | _ => [.null, .int 0, .int 0, .int 0]
def s_tf (t : Nat) : FieldType := match t with
  | 0 => .int
  | 1 => .byte
  | 2 => .boolean
  | 3 => .long
  | 4 => .object "java/lang/Object"
  | 5 => .object "GuardNet$Row"
  | 6 => .object "GuardNet$Node"
  | 7 => .object "GuardNet$Goal"
  | _ => .object "GuardNet$Term"
def s_nt : Nat := 9
def s_zs : List (String × String × String × Value) := [("java/lang/String", "COMPACT_STRINGS", "Z", .int 1), ("java/util/ArrayList", "DEFAULTCAPACITY_EMPTY_ELEMENTDATA", "[Ljava/lang/Object;", .ref 1), ("java/lang/Integer", "DigitOnes", "[B", .ref 2), ("java/lang/Integer", "DigitTens", "[B", .ref 3)]
def s_ks (a : Nat) : Value := match a with
  | 0 => .int 1000000
  | 1 => .int 78000
  | 2 => .int 2147483647
  | 3 => .int 2147483646
  | 4 => .int 100000
  | 5 => .int 100041
  | 6 => .int 100044
  | 7 => .long 9
  | 8 => .long 10
  | 9 => .int 2147483639
  | _ => .long 4294967295
def s_ex : List String := ["java/lang/IllegalArgumentException", "java/lang/IllegalStateException", "java/lang/UnsupportedOperationException", "java/util/NoSuchElementException"]
def s_exn (_ : Nat) : List String := ["java/lang/RuntimeException", "java/lang/Exception"]
def s_hn (i : Nat) : String := match i with
  | 8 => "GuardNet"
  | 13 => "java/lang/IllegalArgumentException"
  | 15 => "java/lang/IllegalStateException"
  | 32 => "java/lang/UnsupportedOperationException"
  | 38 => "java/util/NoSuchElementException"
  | 44 => "GuardNetModel"
  | _ => ""
def s_nc : List (String × String) := [("java/lang/IllegalArgumentException", "java/lang/IllegalStateException"), ("java/lang/IllegalArgumentException", "java/lang/UnsupportedOperationException"), ("java/lang/IllegalArgumentException", "java/util/NoSuchElementException"), ("java/lang/IllegalStateException", "java/lang/IllegalArgumentException"), ("java/lang/IllegalStateException", "java/lang/UnsupportedOperationException"), ("java/lang/IllegalStateException", "java/util/NoSuchElementException"), ("java/lang/UnsupportedOperationException", "java/lang/IllegalArgumentException"), ("java/lang/UnsupportedOperationException", "java/lang/IllegalStateException"), ("java/lang/UnsupportedOperationException", "java/util/NoSuchElementException"), ("java/util/NoSuchElementException", "java/lang/IllegalArgumentException"), ("java/util/NoSuchElementException", "java/lang/IllegalStateException"), ("java/util/NoSuchElementException", "java/lang/UnsupportedOperationException")]
theorem s_okC : ∀ q ∈ s_cl, ∀ w ∈ u_ws q.1 q.2.1 q.2.2, w ∈ sx_tw := by
  have h : s_cl.all (fun q => (u_ws q.1 q.2.1 q.2.2).all sx_inT) = true := by decide +kernel
  intro q hq w hw
  exact sx_inT_ok (List.all_eq_true.mp (List.all_eq_true.mp h q hq) w hw)
theorem sO_0 : (∀ k, k < 5 → parseFieldDescriptor (sT_0 k).2.2.1 = some (sF_0 k)) ∧ (∀ a, a < 5 → ∀ b, b < 5 → a ≠ b → (sT_0 a).2.1 ≠ (sT_0 b).2.1) ∧ (∀ j, j < 5 → defaultValue (sF_0 j) = vp_V (s_df 0) j) := by decide +kernel
theorem sO_1 : (∀ k, k < 3 → parseFieldDescriptor (sT_1 k).2.2.1 = some (sF_1 k)) ∧ (∀ a, a < 3 → ∀ b, b < 3 → a ≠ b → (sT_1 a).2.1 ≠ (sT_1 b).2.1) ∧ (∀ j, j < 3 → defaultValue (sF_1 j) = vp_V (s_df 1) j) := by decide +kernel
theorem sO_2 : (∀ k, k < 8 → parseFieldDescriptor (sT_2 k).2.2.1 = some (sF_2 k)) ∧ (∀ a, a < 8 → ∀ b, b < 8 → a ≠ b → (sT_2 a).2.1 ≠ (sT_2 b).2.1) ∧ (∀ j, j < 8 → defaultValue (sF_2 j) = vp_V (s_df 2) j) := by decide +kernel
theorem sO_3 : (∀ k, k < 5 → parseFieldDescriptor (sT_3 k).2.2.1 = some (sF_3 k)) ∧ (∀ a, a < 5 → ∀ b, b < 5 → a ≠ b → (sT_3 a).2.1 ≠ (sT_3 b).2.1) ∧ (∀ j, j < 5 → defaultValue (sF_3 j) = vp_V (s_df 3) j) := by decide +kernel
theorem sO_4 : (∀ k, k < 3 → parseFieldDescriptor (sT_4 k).2.2.1 = some (sF_4 k)) ∧ (∀ a, a < 3 → ∀ b, b < 3 → a ≠ b → (sT_4 a).2.1 ≠ (sT_4 b).2.1) ∧ (∀ j, j < 3 → defaultValue (sF_4 j) = vp_V (s_df 4) j) := by decide +kernel
theorem sO_5 : (∀ k, k < 6 → parseFieldDescriptor (sT_5 k).2.2.1 = some (sF_5 k)) ∧ (∀ a, a < 6 → ∀ b, b < 6 → a ≠ b → (sT_5 a).2.1 ≠ (sT_5 b).2.1) ∧ (∀ j, j < 6 → defaultValue (sF_5 j) = vp_V (s_df 5) j) := by decide +kernel
theorem sO_6 : (∀ k, k < 2 → parseFieldDescriptor (sT_6 k).2.2.1 = some (sF_6 k)) ∧ (∀ a, a < 2 → ∀ b, b < 2 → a ≠ b → (sT_6 a).2.1 ≠ (sT_6 b).2.1) ∧ (∀ j, j < 2 → defaultValue (sF_6 j) = vp_V (s_df 6) j) := by decide +kernel
theorem sO_7 : (∀ k, k < 5 → parseFieldDescriptor (sT_7 k).2.2.1 = some (sF_7 k)) ∧ (∀ a, a < 5 → ∀ b, b < 5 → a ≠ b → (sT_7 a).2.1 ≠ (sT_7 b).2.1) ∧ (∀ j, j < 5 → defaultValue (sF_7 j) = vp_V (s_df 7) j) := by decide +kernel
theorem sO_8 : (∀ k, k < 3 → parseFieldDescriptor (sT_8 k).2.2.1 = some (sF_8 k)) ∧ (∀ a, a < 3 → ∀ b, b < 3 → a ≠ b → (sT_8 a).2.1 ≠ (sT_8 b).2.1) ∧ (∀ j, j < 3 → defaultValue (sF_8 j) = vp_V (s_df 8) j) := by decide +kernel
theorem sO_9 : (∀ k, k < 5 → parseFieldDescriptor (sT_9 k).2.2.1 = some (sF_9 k)) ∧ (∀ a, a < 5 → ∀ b, b < 5 → a ≠ b → (sT_9 a).2.1 ≠ (sT_9 b).2.1) ∧ (∀ j, j < 5 → defaultValue (sF_9 j) = vp_V (s_df 9) j) := by decide +kernel
theorem sO_10 : (∀ k, k < 5 → parseFieldDescriptor (sT_10 k).2.2.1 = some (sF_10 k)) ∧ (∀ a, a < 5 → ∀ b, b < 5 → a ≠ b → (sT_10 a).2.1 ≠ (sT_10 b).2.1) ∧ (∀ j, j < 5 → defaultValue (sF_10 j) = vp_V (s_df 10) j) := by decide +kernel
theorem sO_11 : (∀ k, k < 7 → parseFieldDescriptor (sT_11 k).2.2.1 = some (sF_11 k)) ∧ (∀ a, a < 7 → ∀ b, b < 7 → a ≠ b → (sT_11 a).2.1 ≠ (sT_11 b).2.1) ∧ (∀ j, j < 7 → defaultValue (sF_11 j) = vp_V (s_df 11) j) := by decide +kernel
theorem sO_12 : (∀ k, k < 47 → parseFieldDescriptor (sT_12 k).2.2.1 = some (sF_12 k)) ∧ (∀ a, a < 47 → ∀ b, b < 47 → a ≠ b → (sT_12 a).2.1 ≠ (sT_12 b).2.1) ∧ (∀ j, j < 47 → defaultValue (sF_12 j) = vp_V (s_df 12) j) := by decide +kernel
theorem sO_13 : (∀ k, k < 3 → parseFieldDescriptor (sT_13 k).2.2.1 = some (sF_13 k)) ∧ (∀ a, a < 3 → ∀ b, b < 3 → a ≠ b → (sT_13 a).2.1 ≠ (sT_13 b).2.1) ∧ (∀ j, j < 3 → defaultValue (sF_13 j) = vp_V (s_df 13) j) := by decide +kernel
theorem sO_14 : (∀ k, k < 4 → parseFieldDescriptor (sT_14 k).2.2.1 = some (sF_14 k)) ∧ (∀ a, a < 4 → ∀ b, b < 4 → a ≠ b → (sT_14 a).2.1 ≠ (sT_14 b).2.1) ∧ (∀ j, j < 4 → defaultValue (sF_14 j) = vp_V (s_df 14) j) := by decide +kernel
theorem s_okCl : ∀ ci C T N, s_cl[ci]? = some (C, T, N) → sx_okC sx_tw s_cl s_ft ci C T N := by
  intro ci C T N h
  have hm := s_okC _ (List.mem_of_getElem? h)
  match ci, h with
  | 0, h => cases h; exact ⟨rfl, hm, sO_0.1, sO_0.2.1⟩
  | 1, h => cases h; exact ⟨rfl, hm, sO_1.1, sO_1.2.1⟩
  | 2, h => cases h; exact ⟨rfl, hm, sO_2.1, sO_2.2.1⟩
  | 3, h => cases h; exact ⟨rfl, hm, sO_3.1, sO_3.2.1⟩
  | 4, h => cases h; exact ⟨rfl, hm, sO_4.1, sO_4.2.1⟩
  | 5, h => cases h; exact ⟨rfl, hm, sO_5.1, sO_5.2.1⟩
  | 6, h => cases h; exact ⟨rfl, hm, sO_6.1, sO_6.2.1⟩
  | 7, h => cases h; exact ⟨rfl, hm, sO_7.1, sO_7.2.1⟩
  | 8, h => cases h; exact ⟨rfl, hm, sO_8.1, sO_8.2.1⟩
  | 9, h => cases h; exact ⟨rfl, hm, sO_9.1, sO_9.2.1⟩
  | 10, h => cases h; exact ⟨rfl, hm, sO_10.1, sO_10.2.1⟩
  | 11, h => cases h; exact ⟨rfl, hm, sO_11.1, sO_11.2.1⟩
  | 12, h => cases h; exact ⟨rfl, hm, sO_12.1, sO_12.2.1⟩
  | 13, h => cases h; exact ⟨rfl, hm, sO_13.1, sO_13.2.1⟩
  | 14, h => cases h; exact ⟨rfl, hm, sO_14.1, sO_14.2.1⟩
  | k + 15, h => simp [s_cl] at h
theorem s_okDf : ∀ ci C T N, s_cl[ci]? = some (C, T, N) → (s_df ci).length = N ∧ (∀ j, j < N → defaultValue (s_ft ci j) = vp_V (s_df ci) j) ∧ ∀ ua, (s_df ci).map (sx_up ua) = s_df ci := by
  intro ci C T N h
  match ci, h with
  | 0, h => cases h; exact ⟨rfl, sO_0.2.2, fun _ => rfl⟩
  | 1, h => cases h; exact ⟨rfl, sO_1.2.2, fun _ => rfl⟩
  | 2, h => cases h; exact ⟨rfl, sO_2.2.2, fun _ => rfl⟩
  | 3, h => cases h; exact ⟨rfl, sO_3.2.2, fun _ => rfl⟩
  | 4, h => cases h; exact ⟨rfl, sO_4.2.2, fun _ => rfl⟩
  | 5, h => cases h; exact ⟨rfl, sO_5.2.2, fun _ => rfl⟩
  | 6, h => cases h; exact ⟨rfl, sO_6.2.2, fun _ => rfl⟩
  | 7, h => cases h; exact ⟨rfl, sO_7.2.2, fun _ => rfl⟩
  | 8, h => cases h; exact ⟨rfl, sO_8.2.2, fun _ => rfl⟩
  | 9, h => cases h; exact ⟨rfl, sO_9.2.2, fun _ => rfl⟩
  | 10, h => cases h; exact ⟨rfl, sO_10.2.2, fun _ => rfl⟩
  | 11, h => cases h; exact ⟨rfl, sO_11.2.2, fun _ => rfl⟩
  | 12, h => cases h; exact ⟨rfl, sO_12.2.2, fun _ => rfl⟩
  | 13, h => cases h; exact ⟨rfl, sO_13.2.2, fun _ => rfl⟩
  | 14, h => cases h; exact ⟨rfl, sO_14.2.2, fun _ => rfl⟩
  | k + 15, h => simp [s_cl] at h
